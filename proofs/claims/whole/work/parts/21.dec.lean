def F_X3_goOn (n0 : Nat) (a0 : Nat) (μ : gw_M) : Option (gw_M) := (gw_bi (F_X3_timeGoesOn n0 a0 μ) (fun (r_1 : Int32) (μ_2 : gw_M) => (F_X3_dealOut n0 a0 μ_2).bind (fun (μ_6 : gw_M) => (if ¬ (μ_6 a0 6) = 1 then (F_X3_actOfInner n0 a0 μ_6).bind (fun (μ_11 : gw_M) => (F_X3_dealOut n0 a0 μ_11).bind (fun (μ_15 : gw_M) => some μ_15)) else (F_X3_actOfOuter n0 a0 μ_6).bind (fun (μ_19 : gw_M) => (F_X3_dealOut n0 a0 μ_19).bind (fun (μ_23 : gw_M) => some μ_23))))))
theorem ok_X3_goOn {l : Launch} {x : gw_C} {d : Nat} {S : gw_S} {Q : Option Value → gw_S → gw_M → Prop} {a0 : Nat} {n0 : Nat} {μ : gw_M} {μ'} (hS0 : gw_sh S 3 a0) (h : F_X3_goOn n0 a0 μ = some μ') (hq : Q none S μ') : gw_ok l x (d + 6) sgX3_goOn 0 0 [.ref a0] S μ Q := by
  refine gw_ok_of stX3_goOn (lv0 := [.ref a0]) (Nat.le_of_ble_eq_true rfl) rfl rfl ?_
  intro K hK
  have hcc : 0 ≤ 0 := Nat.zero_le _
  have hss : 0 ≤ 0 := Nat.zero_le _
  have ka0_0 : gw_kd S a0 = 3 := (hS0 0 _ rfl).1
  unfold F_X3_goOn at h
  refine hK _ _ _ _ _ _ _ ?_
  rw [fdX3_goOn_0]
  simp only [gt_nil, true_and, eq_self, gt_aload_n, gt_rfk, gw_nth, gt_v0, gt_v1, gt_v2, gt_v3, gt_v4, gt_v5, gt_pop_i, gt_pop_r, gt_get_r, gt_get_i, gt_get_z, gt_iconst, gt_icmp, gt_goto, bkX3_goOn_0, ka0_0]
  obtain ⟨r_1, μ_2, e_3, h⟩ := gw_bnd2 h
  refine ⟨rfl, 0, 0, hcc, hss, ok_X3_timeGoesOn hS0 e_3 ?_⟩
  simp only [gt_nil, true_and, eq_self, gt_pop_i, gt_pop_r, gt_aload_n, gt_rfk, gw_nth, gt_v0, gt_v1, gt_v2, gt_v3, gt_v4, gt_v5, gt_get_r, gt_get_i, gt_get_z, gt_iconst, gt_icmp, gt_goto, Option.toList, List.cons_append, List.nil_append, Nat.add_zero, ka0_0]
  obtain ⟨μ_6, e_7, h⟩ := gw_bnd h
  refine ⟨rfl, 0, 0, hcc, hss, ok_X3_dealOut hS0 e_7 ?_⟩
  simp only [gt_nil, true_and, eq_self, gt_aload_n, gt_rfk, gw_nth, gt_get_r, gt_get_i, gt_get_z, gt_iconst, gt_icmp, gt_v0, gt_v1, gt_v2, gt_v3, gt_v4, gt_v5, gt_goto, Option.toList, List.cons_append, List.nil_append, Nat.add_zero, ka0_0]
  refine ⟨fun c_9 => ?_, fun c_9 => ?_⟩
  · replace h := gw_ifp2 (gw_c2_ne _ _) h c_9
    refine hK _ _ _ _ _ _ _ ?_
    rw [fdX3_goOn_24]
    simp only [gt_nil, true_and, eq_self, gt_aload_n, gt_rfk, gw_nth, gt_v0, gt_v1, gt_v2, gt_v3, gt_v4, gt_v5, bkX3_goOn_24, ka0_0]
    obtain ⟨μ_11, e_12, h⟩ := gw_bnd h
    refine ⟨rfl, 0, 0, hcc, hss, ok_X3_actOfInner hS0 e_12 ?_⟩
    simp only [gt_nil, true_and, eq_self, Option.toList, List.cons_append, List.nil_append, Nat.add_zero, ka0_0]
    refine hK _ _ _ _ _ _ _ ?_
    rw [fdX3_goOn_28]
    simp only [gt_nil, true_and, eq_self, gt_aload_n, gt_rfk, gw_nth, gt_v0, gt_v1, gt_v2, gt_v3, gt_v4, gt_v5, gt_vret, bkX3_goOn_28, ka0_0]
    obtain ⟨μ_15, e_16, h⟩ := gw_bnd h
    refine ⟨rfl, 0, 0, hcc, hss, ok_X3_dealOut hS0 e_16 ?_⟩
    simp only [gt_nil, true_and, eq_self, gt_vret, Option.toList, List.cons_append, List.nil_append, Nat.add_zero, ka0_0]
    obtain rfl := gw_inj1 h
    exact ⟨hcc, hss, hq⟩
  · replace h := gw_ifn2 (gw_c2_ne _ _) h c_9
    obtain ⟨μ_19, e_20, h⟩ := gw_bnd h
    refine ⟨rfl, 0, 0, hcc, hss, ok_X3_actOfOuter hS0 e_20 ?_⟩
    simp only [gt_nil, true_and, eq_self, gt_goto, Option.toList, List.cons_append, List.nil_append, Nat.add_zero, ka0_0]
    refine hK _ _ _ _ _ _ _ ?_
    rw [fdX3_goOn_28]
    simp only [gt_nil, true_and, eq_self, gt_aload_n, gt_rfk, gw_nth, gt_v0, gt_v1, gt_v2, gt_v3, gt_v4, gt_v5, gt_vret, bkX3_goOn_28, ka0_0]
    obtain ⟨μ_23, e_24, h⟩ := gw_bnd h
    refine ⟨rfl, 0, 0, hcc, hss, ok_X3_dealOut hS0 e_24 ?_⟩
    simp only [gt_nil, true_and, eq_self, gt_vret, Option.toList, List.cons_append, List.nil_append, Nat.add_zero, ka0_0]
    obtain rfl := gw_inj1 h
    exact ⟨hcc, hss, hq⟩
def F_X3_walkTables (n0 : Nat) (a0 : Nat) (v1 : Int32) (v2 : Int32) (μ : gw_M) : Option (Int32) := (F_X3_inHand n0 a0 μ).bind (fun (r_1 : Nat) => (F_X8_gives n0 (r_1 + 7) v1 v2 μ).bind (fun (r_5 : Int32) => (if ¬ r_5 = 0 then (F_X3_inHand n0 a0 μ).bind (fun (r_10 : Nat) => (if 0 ≤ v1 ∧ v1.toNatClampNeg < 16 then gw_let ((μ (r_1 + 8) v1.toNatClampNeg)) (fun (w_15 : Int32) => (F_X8_gives n0 (r_10 + 11) w_15 v2 μ).bind (fun (r_16 : Int32) => (if ¬ r_16 = 0 then (if 0 ≤ w_15 ∧ w_15.toNatClampNeg < 16 then gw_let ((μ (r_10 + 12) w_15.toNatClampNeg)) (fun (w_22 : Int32) => (F_X4_rightsGiven n0 (a0 + 1) w_22 μ).bind (fun (r_23 : Int32) => (F_X10_hasBit n0 r_23 v2 μ).bind (fun (r_27 : Int32) => (if r_27 = 0 then some (-4) else (if 0 ≤ w_22 ∧ w_22.toNatClampNeg < 16 then some (μ (a0 + 3) w_22.toNatClampNeg) else none))))) else none) else some (-3)))) else none)) else some (-2))))
theorem ok_X3_walkTables {l : Launch} {x : gw_C} {d : Nat} {S : gw_S} {Q : Option Value → gw_S → gw_M → Prop} {v1 v2 : Int32} {a0 : Nat} {n0 : Nat} {μ : gw_M} {r} (hS0 : gw_sh S 3 a0) (h : F_X3_walkTables n0 a0 v1 v2 μ = some r) (hq : Q (some (.int r)) S μ) : gw_ok l x (d + 3) sgX3_walkTables 0 0 [.ref a0, .int v1, .int v2] S μ Q := by
  refine gw_ok_of stX3_walkTables (lv0 := [.ref a0, .int v1, .int v2, .retAddr 0, .retAddr 0, .retAddr 0, .retAddr 0]) (Nat.le_of_ble_eq_true rfl) rfl rfl ?_
  intro K hK
  have hcc : 0 ≤ 0 := Nat.zero_le _
  have hss : 0 ≤ 0 := Nat.zero_le _
  have ka0_0 : gw_kd S a0 = 3 := (hS0 0 _ rfl).1
  have ra0_0_0 : gw_rf S a0 0 = a0 + 1 := (hS0 0 _ rfl).2.2 (0, 1) (by decide)
  have ka0_1 : gw_kd S (a0 + 1) = 4 := (hS0 1 _ rfl).1
  have ra0_1_0 : gw_rf S (a0 + 1) 0 = a0 + 2 := (hS0 1 _ rfl).2.2 (0, 2) (by decide)
  have ka0_2 : gw_kd S (a0 + 2) = 8 := (hS0 2 _ rfl).1
  have ra0_2_0 : gw_rf S (a0 + 2) 0 = a0 + 3 := (hS0 2 _ rfl).2.2 (0, 3) (by decide)
  have ka0_3 : gw_kd S (a0 + 3) = 12 := (hS0 3 _ rfl).1
  have la0_3 : gw_ln S (a0 + 3) = 16 := (hS0 3 _ rfl).2.1
  unfold F_X3_walkTables at h
  refine hK _ _ _ _ _ _ _ ?_
  rw [fdX3_walkTables_0]
  simp only [gt_nil, true_and, eq_self, gt_aload_n, gt_rfk, gw_nth, gt_v0, gt_v1, gt_v2, gt_v3, gt_v4, gt_v5, gt_get_r, gt_get_i, gt_get_z, gt_astore_n, gw_set, gt_iload_n, gt_ink, gt_if, gt_bipush, gt_iret, gt_retz, bkX3_walkTables_0, ka0_0, ra0_0_0, ka0_1, ra0_1_0, ka0_2, ra0_2_0, ka0_3, la0_3]
  obtain ⟨r_1, e_3, h⟩ := gw_bnd h
  refine ⟨rfl, 0, 0, hcc, hss, ok_X3_inHand hS0 e_3 ?_⟩
  intro hsr_1
  have kr_1_0 : gw_kd S r_1 = 1 := (hsr_1 0 _ rfl).1
  have rr_1_0_1 : gw_rf S r_1 1 = r_1 + 7 := (hsr_1 0 _ rfl).2.2 (1, 7) (by decide)
  have kr_1_7 : gw_kd S (r_1 + 7) = 8 := (hsr_1 7 _ rfl).1
  have rr_1_7_0 : gw_rf S (r_1 + 7) 0 = r_1 + 8 := (hsr_1 7 _ rfl).2.2 (0, 8) (by decide)
  have kr_1_8 : gw_kd S (r_1 + 8) = 12 := (hsr_1 8 _ rfl).1
  have lr_1_8 : gw_ln S (r_1 + 8) = 16 := (hsr_1 8 _ rfl).2.1
  simp only [gt_nil, true_and, eq_self, gt_get_r, gt_get_i, gt_get_z, gt_astore_n, gw_set, gt_aload_n, gt_rfk, gw_nth, gt_iload_n, gt_ink, gt_v0, gt_v1, gt_v2, gt_v3, gt_v4, gt_v5, gt_if, gt_bipush, gt_iret, gt_retz, Option.toList, List.cons_append, List.nil_append, Nat.add_zero, ka0_0, ra0_0_0, ka0_1, ra0_1_0, ka0_2, ra0_2_0, ka0_3, la0_3, kr_1_0, rr_1_0_1, kr_1_7, rr_1_7_0, kr_1_8, lr_1_8]
  obtain ⟨r_5, e_7, h⟩ := gw_bnd h
  refine ⟨rfl, 0, 0, hcc, hss, ok_X8_gives (gw_sub hsr_1 8 7 (by decide +kernel)) e_7 ?_⟩
  intro hbr_5
  simp only [gt_nil, true_and, eq_self, gt_if, gt_bipush, gt_iret, gt_retz, Option.toList, List.cons_append, List.nil_append, Nat.add_zero, ka0_0, ra0_0_0, ka0_1, ra0_1_0, ka0_2, ra0_2_0, ka0_3, la0_3, kr_1_0, rr_1_0_1, kr_1_7, rr_1_7_0, kr_1_8, lr_1_8]
  refine ⟨fun c_9 => ?_, fun c_9 => ?_⟩
  · replace h := gw_ifp h c_9
    refine hK _ _ _ _ _ _ _ ?_
    rw [fdX3_walkTables_20]
    simp only [gt_nil, true_and, eq_self, gt_aload_n, gt_rfk, gw_nth, gt_v0, gt_v1, gt_v2, gt_v3, gt_v4, gt_v5, gt_get_r, gt_get_i, gt_get_z, gt_astore, gw_set, gt_iload_n, gt_ink, gt_iaload, gt_istore, gt_aload, gt_iload, gt_if, gt_bipush, gt_iret, gt_retz, bkX3_walkTables_20, ka0_0, ra0_0_0, ka0_1, ra0_1_0, ka0_2, ra0_2_0, ka0_3, la0_3, kr_1_0, rr_1_0_1, kr_1_7, rr_1_7_0, kr_1_8, lr_1_8]
    obtain ⟨r_10, e_12, h⟩ := gw_bnd h
    refine ⟨rfl, 0, 0, hcc, hss, ok_X3_inHand hS0 e_12 ?_⟩
    intro hsr_10
    have kr_10_0 : gw_kd S r_10 = 1 := (hsr_10 0 _ rfl).1
    have rr_10_0_2 : gw_rf S r_10 2 = r_10 + 11 := (hsr_10 0 _ rfl).2.2 (2, 11) (by decide)
    have kr_10_11 : gw_kd S (r_10 + 11) = 8 := (hsr_10 11 _ rfl).1
    have rr_10_11_0 : gw_rf S (r_10 + 11) 0 = r_10 + 12 := (hsr_10 11 _ rfl).2.2 (0, 12) (by decide)
    have kr_10_12 : gw_kd S (r_10 + 12) = 12 := (hsr_10 12 _ rfl).1
    have lr_10_12 : gw_ln S (r_10 + 12) = 16 := (hsr_10 12 _ rfl).2.1
    simp only [gt_nil, true_and, eq_self, gt_get_r, gt_get_i, gt_get_z, gt_astore, gw_set, gt_aload_n, gt_rfk, gw_nth, gt_iload_n, gt_ink, gt_iaload, gt_istore, gt_aload, gt_iload, gt_v0, gt_v1, gt_v2, gt_v3, gt_v4, gt_v5, gt_if, gt_bipush, gt_iret, gt_retz, Option.toList, List.cons_append, List.nil_append, Nat.add_zero, ka0_0, ra0_0_0, ka0_1, ra0_1_0, ka0_2, ra0_2_0, ka0_3, la0_3, kr_1_0, rr_1_0_1, kr_1_7, rr_1_7_0, kr_1_8, lr_1_8, kr_10_0, rr_10_0_2, kr_10_11, rr_10_11_0, kr_10_12, lr_10_12]
    obtain ⟨c_14, h⟩ := gw_ife h
    refine ⟨c_14, ?_⟩
    obtain ⟨w_15, hw_15, h⟩ := gw_lt h
    try rw [← hw_15]
    obtain ⟨r_16, e_18, h⟩ := gw_bnd h
    refine ⟨rfl, 0, 0, hcc, hss, ok_X8_gives (gw_sub hsr_10 8 11 (by decide +kernel)) e_18 ?_⟩
    intro hbr_16
    simp only [gt_nil, true_and, eq_self, gt_if, gt_bipush, gt_iret, gt_retz, Option.toList, List.cons_append, List.nil_append, Nat.add_zero, ka0_0, ra0_0_0, ka0_1, ra0_1_0, ka0_2, ra0_2_0, ka0_3, la0_3, kr_1_0, rr_1_0_1, kr_1_7, rr_1_7_0, kr_1_8, lr_1_8, kr_10_0, rr_10_0_2, kr_10_11, rr_10_11_0, kr_10_12, lr_10_12]
    refine ⟨fun c_20 => ?_, fun c_20 => ?_⟩
    · replace h := gw_ifp h c_20
      refine hK _ _ _ _ _ _ _ ?_
      rw [fdX3_walkTables_51]
      simp only [gt_nil, true_and, eq_self, gt_aload, gt_rfk, gw_nth, gt_get_r, gt_get_i, gt_get_z, gt_iload, gt_ink, gt_iaload, gt_istore, gw_set, gt_aload_n, gt_v0, gt_v1, gt_v2, gt_v3, gt_v4, gt_v5, gt_iload_n, gt_s1_0, gt_s2_0, gt_s3_0, gt_s4_0, gt_s1_1, gt_s2_1, gt_s3_1, gt_s4_1, gt_acpy, gt_if, gt_goto, bkX3_walkTables_51, ka0_0, ra0_0_0, ka0_1, ra0_1_0, ka0_2, ra0_2_0, ka0_3, la0_3, kr_1_0, rr_1_0_1, kr_1_7, rr_1_7_0, kr_1_8, lr_1_8, kr_10_0, rr_10_0_2, kr_10_11, rr_10_11_0, kr_10_12, lr_10_12]
      obtain ⟨c_21, h⟩ := gw_ife h
      refine ⟨c_21, ?_⟩
      obtain ⟨w_22, hw_22, h⟩ := gw_lt h
      try rw [← hw_22]
      obtain ⟨r_23, e_25, h⟩ := gw_bnd h
      refine ⟨rfl, 0, 0, hcc, hss, ok_X4_rightsGiven (gw_sub hS0 4 1 (by decide +kernel)) e_25 ?_⟩
      simp only [gt_nil, true_and, eq_self, gt_iload_n, gt_ink, gw_nth, gt_s1_0, gt_s2_0, gt_s3_0, gt_s4_0, gt_s1_1, gt_s2_1, gt_s3_1, gt_s4_1, gt_acpy, gt_if, gt_aload_n, gt_rfk, gt_get_r, gt_get_i, gt_get_z, gt_iload, gt_iaload, gt_goto, Option.toList, List.cons_append, List.nil_append, Nat.add_zero, ka0_0, ra0_0_0, ka0_1, ra0_1_0, ka0_2, ra0_2_0, ka0_3, la0_3, kr_1_0, rr_1_0_1, kr_1_7, rr_1_7_0, kr_1_8, lr_1_8, kr_10_0, rr_10_0_2, kr_10_11, rr_10_11_0, kr_10_12, lr_10_12]
      obtain ⟨r_27, e_29, h⟩ := gw_bnd h
      refine ⟨rfl, 0, 0, hcc, hss, ok_X10_hasBit e_29 ?_⟩
      intro hbr_27
      simp only [gt_nil, true_and, eq_self, gt_if, gt_aload_n, gt_rfk, gw_nth, gt_get_r, gt_get_i, gt_get_z, gt_iload, gt_ink, gt_iaload, gt_goto, Option.toList, List.cons_append, List.nil_append, Nat.add_zero, ka0_0, ra0_0_0, ka0_1, ra0_1_0, ka0_2, ra0_2_0, ka0_3, la0_3, kr_1_0, rr_1_0_1, kr_1_7, rr_1_7_0, kr_1_8, lr_1_8, kr_10_0, rr_10_0_2, kr_10_11, rr_10_11_0, kr_10_12, lr_10_12]
      refine ⟨fun c_31 => ?_, fun c_31 => ?_⟩
      · replace h := gw_ifp h c_31
        refine hK _ _ _ _ _ _ _ ?_
        rw [fdX3_walkTables_93]
        simp only [gt_nil, true_and, eq_self, gt_bipush, bkX3_walkTables_93, ka0_0, ra0_0_0, ka0_1, ra0_1_0, ka0_2, ra0_2_0, ka0_3, la0_3, kr_1_0, rr_1_0_1, kr_1_7, rr_1_7_0, kr_1_8, lr_1_8, kr_10_0, rr_10_0_2, kr_10_11, rr_10_11_0, kr_10_12, lr_10_12]
        refine hK _ _ _ _ _ _ _ ?_
        rw [fdX3_walkTables_95]
        simp only [gt_nil, true_and, eq_self, gt_iret, gt_retz, bkX3_walkTables_95, ka0_0, ra0_0_0, ka0_1, ra0_1_0, ka0_2, ra0_2_0, ka0_3, la0_3, kr_1_0, rr_1_0_1, kr_1_7, rr_1_7_0, kr_1_8, lr_1_8, kr_10_0, rr_10_0_2, kr_10_11, rr_10_11_0, kr_10_12, lr_10_12]
        obtain rfl := gw_inj1 h
        exact ⟨hcc, hss, hq⟩
      · replace h := gw_ifn h c_31
        obtain ⟨c_32, h⟩ := gw_ife h
        refine ⟨c_32, ?_⟩
        refine hK _ _ _ _ _ _ _ ?_
        rw [fdX3_walkTables_95]
        simp only [gt_nil, true_and, eq_self, gt_iret, gt_retz, bkX3_walkTables_95, ka0_0, ra0_0_0, ka0_1, ra0_1_0, ka0_2, ra0_2_0, ka0_3, la0_3, kr_1_0, rr_1_0_1, kr_1_7, rr_1_7_0, kr_1_8, lr_1_8, kr_10_0, rr_10_0_2, kr_10_11, rr_10_11_0, kr_10_12, lr_10_12]
        obtain rfl := gw_inj1 h
        exact ⟨hcc, hss, hq⟩
    · replace h := gw_ifn h c_20
      obtain rfl := gw_inj1 h
      exact ⟨hcc, hss, hq⟩
  · replace h := gw_ifn h c_9
    obtain rfl := gw_inj1 h
    exact ⟨hcc, hss, hq⟩
def F_X3_rightsOfVirtual (n0 : Nat) (a0 : Nat) (v1 : Int32) (μ : gw_M) : Option (Int32) := (F_X3_inHand n0 a0 μ).bind (fun (r_1 : Nat) => (F_X8_has n0 (r_1 + 7) v1 μ).bind (fun (r_5 : Int32) => (if r_5 = 0 then some 0 else (if 0 ≤ v1 ∧ v1.toNatClampNeg < 16 then (if 0 ≤ v1 ∧ v1.toNatClampNeg < 16 then (F_X3_rightsOfBoth n0 a0 (μ (r_1 + 8) v1.toNatClampNeg) μ).bind (fun (r_12 : Int32) => some ((μ (r_1 + 9) v1.toNatClampNeg) &&& r_12)) else none) else none))))
theorem ok_X3_rightsOfVirtual {l : Launch} {x : gw_C} {d : Nat} {S : gw_S} {Q : Option Value → gw_S → gw_M → Prop} {v1 : Int32} {a0 : Nat} {n0 : Nat} {μ : gw_M} {r} (hS0 : gw_sh S 3 a0) (h : F_X3_rightsOfVirtual n0 a0 v1 μ = some r) (hq : Q (some (.int r)) S μ) : gw_ok l x (d + 3) sgX3_rightsOfVirtual 0 0 [.ref a0, .int v1] S μ Q := by
  refine gw_ok_of stX3_rightsOfVirtual (lv0 := [.ref a0, .int v1, .retAddr 0]) (Nat.le_of_ble_eq_true rfl) rfl rfl ?_
  intro K hK
  have hcc : 0 ≤ 0 := Nat.zero_le _
  have hss : 0 ≤ 0 := Nat.zero_le _
  have ka0_0 : gw_kd S a0 = 3 := (hS0 0 _ rfl).1
  unfold F_X3_rightsOfVirtual at h
  refine hK _ _ _ _ _ _ _ ?_
  rw [fdX3_rightsOfVirtual_0]
  simp only [gt_nil, true_and, eq_self, gt_aload_n, gt_rfk, gw_nth, gt_v0, gt_v1, gt_v2, gt_v3, gt_v4, gt_v5, gt_get_r, gt_get_i, gt_get_z, gt_astore_n, gw_set, gt_iload_n, gt_ink, gt_if, gt_iaload, gt_iand, gt_goto, bkX3_rightsOfVirtual_0, ka0_0]
  obtain ⟨r_1, e_3, h⟩ := gw_bnd h
  refine ⟨rfl, 0, 0, hcc, hss, ok_X3_inHand hS0 e_3 ?_⟩
  intro hsr_1
  have kr_1_0 : gw_kd S r_1 = 1 := (hsr_1 0 _ rfl).1
  have rr_1_0_1 : gw_rf S r_1 1 = r_1 + 7 := (hsr_1 0 _ rfl).2.2 (1, 7) (by decide)
  have kr_1_7 : gw_kd S (r_1 + 7) = 8 := (hsr_1 7 _ rfl).1
  have rr_1_7_0 : gw_rf S (r_1 + 7) 0 = r_1 + 8 := (hsr_1 7 _ rfl).2.2 (0, 8) (by decide)
  have rr_1_7_1 : gw_rf S (r_1 + 7) 1 = r_1 + 9 := (hsr_1 7 _ rfl).2.2 (1, 9) (by decide)
  have kr_1_8 : gw_kd S (r_1 + 8) = 12 := (hsr_1 8 _ rfl).1
  have lr_1_8 : gw_ln S (r_1 + 8) = 16 := (hsr_1 8 _ rfl).2.1
  have kr_1_9 : gw_kd S (r_1 + 9) = 12 := (hsr_1 9 _ rfl).1
  have lr_1_9 : gw_ln S (r_1 + 9) = 16 := (hsr_1 9 _ rfl).2.1
  simp only [gt_nil, true_and, eq_self, gt_get_r, gt_get_i, gt_get_z, gt_astore_n, gw_set, gt_aload_n, gt_rfk, gw_nth, gt_iload_n, gt_ink, gt_v0, gt_v1, gt_v2, gt_v3, gt_v4, gt_v5, gt_if, gt_iaload, gt_iand, gt_goto, Option.toList, List.cons_append, List.nil_append, Nat.add_zero, ka0_0, kr_1_0, rr_1_0_1, kr_1_7, rr_1_7_0, rr_1_7_1, kr_1_8, lr_1_8, kr_1_9, lr_1_9]
  obtain ⟨r_5, e_7, h⟩ := gw_bnd h
  refine ⟨rfl, 0, 0, hcc, hss, ok_X8_has (gw_sub hsr_1 8 7 (by decide +kernel)) e_7 ?_⟩
  intro hbr_5
  simp only [gt_nil, true_and, eq_self, gt_if, gt_aload_n, gt_rfk, gw_nth, gt_get_r, gt_get_i, gt_get_z, gt_iload_n, gt_ink, gt_iaload, gt_v0, gt_v1, gt_v2, gt_v3, gt_v4, gt_v5, gt_iand, gt_goto, Option.toList, List.cons_append, List.nil_append, Nat.add_zero, ka0_0, kr_1_0, rr_1_0_1, kr_1_7, rr_1_7_0, rr_1_7_1, kr_1_8, lr_1_8, kr_1_9, lr_1_9]
  refine ⟨fun c_9 => ?_, fun c_9 => ?_⟩
  · replace h := gw_ifp h c_9
    refine hK _ _ _ _ _ _ _ ?_
    rw [fdX3_rightsOfVirtual_36]
    simp only [gt_nil, true_and, eq_self, gt_iconst, bkX3_rightsOfVirtual_36, ka0_0, kr_1_0, rr_1_0_1, kr_1_7, rr_1_7_0, rr_1_7_1, kr_1_8, lr_1_8, kr_1_9, lr_1_9]
    refine hK _ _ _ _ _ _ _ ?_
    rw [fdX3_rightsOfVirtual_37]
    simp only [gt_nil, true_and, eq_self, gt_iret, gt_retz, bkX3_rightsOfVirtual_37, ka0_0, kr_1_0, rr_1_0_1, kr_1_7, rr_1_7_0, rr_1_7_1, kr_1_8, lr_1_8, kr_1_9, lr_1_9]
    obtain rfl := gw_inj1 h
    exact ⟨hcc, hss, hq⟩
  · replace h := gw_ifn h c_9
    obtain ⟨c_10, h⟩ := gw_ife h
    refine ⟨c_10, ?_⟩
    obtain ⟨c_11, h⟩ := gw_ife h
    refine ⟨c_11, ?_⟩
    obtain ⟨r_12, e_14, h⟩ := gw_bnd h
    refine ⟨rfl, 0, 0, hcc, hss, ok_X3_rightsOfBoth hS0 e_14 ?_⟩
    simp only [gt_nil, true_and, eq_self, gt_iand, gt_goto, Option.toList, List.cons_append, List.nil_append, Nat.add_zero, ka0_0, kr_1_0, rr_1_0_1, kr_1_7, rr_1_7_0, rr_1_7_1, kr_1_8, lr_1_8, kr_1_9, lr_1_9]
    refine hK _ _ _ _ _ _ _ ?_
    rw [fdX3_rightsOfVirtual_37]
    simp only [gt_nil, true_and, eq_self, gt_iret, gt_retz, bkX3_rightsOfVirtual_37, ka0_0, kr_1_0, rr_1_0_1, kr_1_7, rr_1_7_0, rr_1_7_1, kr_1_8, lr_1_8, kr_1_9, lr_1_9]
    obtain rfl := gw_inj1 h
    exact ⟨hcc, hss, hq⟩
def F_X3_frameOfInner (n0 : Nat) (a0 : Nat) (v1 : Int32) (μ : gw_M) : Option (Int32) := (F_X3_inHand n0 a0 μ).bind (fun (r_1 : Nat) => (F_X8_has n0 (r_1 + 11) v1 μ).bind (fun (r_5 : Int32) => (if r_5 = 0 then some (-1) else (if 0 ≤ v1 ∧ v1.toNatClampNeg < 16 then (if 0 ≤ (μ (r_1 + 12) v1.toNatClampNeg) ∧ (μ (r_1 + 12) v1.toNatClampNeg).toNatClampNeg < 16 then some (μ (a0 + 3) (μ (r_1 + 12) v1.toNatClampNeg).toNatClampNeg) else none) else none))))
theorem ok_X3_frameOfInner {l : Launch} {x : gw_C} {d : Nat} {S : gw_S} {Q : Option Value → gw_S → gw_M → Prop} {v1 : Int32} {a0 : Nat} {n0 : Nat} {μ : gw_M} {r} (hS0 : gw_sh S 3 a0) (h : F_X3_frameOfInner n0 a0 v1 μ = some r) (hq : Q (some (.int r)) S μ) : gw_ok l x (d + 2) sgX3_frameOfInner 0 0 [.ref a0, .int v1] S μ Q := by
  refine gw_ok_of stX3_frameOfInner (lv0 := [.ref a0, .int v1, .retAddr 0]) (Nat.le_of_ble_eq_true rfl) rfl rfl ?_
  intro K hK
  have hcc : 0 ≤ 0 := Nat.zero_le _
  have hss : 0 ≤ 0 := Nat.zero_le _
  have ka0_0 : gw_kd S a0 = 3 := (hS0 0 _ rfl).1
  have ra0_0_0 : gw_rf S a0 0 = a0 + 1 := (hS0 0 _ rfl).2.2 (0, 1) (by decide)
  have ka0_1 : gw_kd S (a0 + 1) = 4 := (hS0 1 _ rfl).1
  have ra0_1_0 : gw_rf S (a0 + 1) 0 = a0 + 2 := (hS0 1 _ rfl).2.2 (0, 2) (by decide)
  have ka0_2 : gw_kd S (a0 + 2) = 8 := (hS0 2 _ rfl).1
  have ra0_2_0 : gw_rf S (a0 + 2) 0 = a0 + 3 := (hS0 2 _ rfl).2.2 (0, 3) (by decide)
  have ka0_3 : gw_kd S (a0 + 3) = 12 := (hS0 3 _ rfl).1
  have la0_3 : gw_ln S (a0 + 3) = 16 := (hS0 3 _ rfl).2.1
  unfold F_X3_frameOfInner at h
  refine hK _ _ _ _ _ _ _ ?_
  rw [fdX3_frameOfInner_0]
  simp only [gt_nil, true_and, eq_self, gt_aload_n, gt_rfk, gw_nth, gt_v0, gt_v1, gt_v2, gt_v3, gt_v4, gt_v5, gt_get_r, gt_get_i, gt_get_z, gt_astore_n, gw_set, gt_iload_n, gt_ink, gt_if, gt_iaload, gt_goto, bkX3_frameOfInner_0, ka0_0, ra0_0_0, ka0_1, ra0_1_0, ka0_2, ra0_2_0, ka0_3, la0_3]
  obtain ⟨r_1, e_3, h⟩ := gw_bnd h
  refine ⟨rfl, 0, 0, hcc, hss, ok_X3_inHand hS0 e_3 ?_⟩
  intro hsr_1
  have kr_1_0 : gw_kd S r_1 = 1 := (hsr_1 0 _ rfl).1
  have rr_1_0_2 : gw_rf S r_1 2 = r_1 + 11 := (hsr_1 0 _ rfl).2.2 (2, 11) (by decide)
  have kr_1_11 : gw_kd S (r_1 + 11) = 8 := (hsr_1 11 _ rfl).1
  have rr_1_11_0 : gw_rf S (r_1 + 11) 0 = r_1 + 12 := (hsr_1 11 _ rfl).2.2 (0, 12) (by decide)
  have kr_1_12 : gw_kd S (r_1 + 12) = 12 := (hsr_1 12 _ rfl).1
  have lr_1_12 : gw_ln S (r_1 + 12) = 16 := (hsr_1 12 _ rfl).2.1
  simp only [gt_nil, true_and, eq_self, gt_get_r, gt_get_i, gt_get_z, gt_astore_n, gw_set, gt_aload_n, gt_rfk, gw_nth, gt_iload_n, gt_ink, gt_v0, gt_v1, gt_v2, gt_v3, gt_v4, gt_v5, gt_if, gt_iaload, gt_goto, Option.toList, List.cons_append, List.nil_append, Nat.add_zero, ka0_0, ra0_0_0, ka0_1, ra0_1_0, ka0_2, ra0_2_0, ka0_3, la0_3, kr_1_0, rr_1_0_2, kr_1_11, rr_1_11_0, kr_1_12, lr_1_12]
  obtain ⟨r_5, e_7, h⟩ := gw_bnd h
  refine ⟨rfl, 0, 0, hcc, hss, ok_X8_has (gw_sub hsr_1 8 11 (by decide +kernel)) e_7 ?_⟩
  intro hbr_5
  simp only [gt_nil, true_and, eq_self, gt_if, gt_aload_n, gt_rfk, gw_nth, gt_get_r, gt_get_i, gt_get_z, gt_iload_n, gt_ink, gt_iaload, gt_goto, Option.toList, List.cons_append, List.nil_append, Nat.add_zero, ka0_0, ra0_0_0, ka0_1, ra0_1_0, ka0_2, ra0_2_0, ka0_3, la0_3, kr_1_0, rr_1_0_2, kr_1_11, rr_1_11_0, kr_1_12, lr_1_12]
  refine ⟨fun c_9 => ?_, fun c_9 => ?_⟩
  · replace h := gw_ifp h c_9
    refine hK _ _ _ _ _ _ _ ?_
    rw [fdX3_frameOfInner_36]
    simp only [gt_nil, true_and, eq_self, gt_iconst, bkX3_frameOfInner_36, ka0_0, ra0_0_0, ka0_1, ra0_1_0, ka0_2, ra0_2_0, ka0_3, la0_3, kr_1_0, rr_1_0_2, kr_1_11, rr_1_11_0, kr_1_12, lr_1_12]
    refine hK _ _ _ _ _ _ _ ?_
    rw [fdX3_frameOfInner_37]
    simp only [gt_nil, true_and, eq_self, gt_iret, gt_retz, bkX3_frameOfInner_37, ka0_0, ra0_0_0, ka0_1, ra0_1_0, ka0_2, ra0_2_0, ka0_3, la0_3, kr_1_0, rr_1_0_2, kr_1_11, rr_1_11_0, kr_1_12, lr_1_12]
    obtain rfl := gw_inj1 h
    exact ⟨hcc, hss, hq⟩
  · replace h := gw_ifn h c_9
    obtain ⟨c_10, h⟩ := gw_ife h
    refine ⟨c_10, ?_⟩
    obtain ⟨c_11, h⟩ := gw_ife h
    refine ⟨c_11, ?_⟩
    refine hK _ _ _ _ _ _ _ ?_
    rw [fdX3_frameOfInner_37]
    simp only [gt_nil, true_and, eq_self, gt_iret, gt_retz, bkX3_frameOfInner_37, ka0_0, ra0_0_0, ka0_1, ra0_1_0, ka0_2, ra0_2_0, ka0_3, la0_3, kr_1_0, rr_1_0_2, kr_1_11, rr_1_11_0, kr_1_12, lr_1_12]
    obtain rfl := gw_inj1 h
    exact ⟨hcc, hss, hq⟩
def F_X3_virtualPagesAt_51 (rec13 : Int32 → Nat → Int32 → Int32 → gw_M → Option (Int32)) (n0 : Nat) (a0 : Nat) (v1 : Int32) (p2 : Nat) (v3 : Int32) (v4 : Int32) (μ : gw_M) : Option (Int32) := gw_let (v4 + 1) (fun (w_1 : Int32) => rec13 v1 p2 v3 w_1 μ)
def F_X3_virtualPagesAt_13 (n0 : Nat) (a0 : Nat) : Nat → Int32 → Nat → Int32 → Int32 → gw_M → Option (Int32)
  | 0, _, _, _, _, _ => none
  | n + 1, v1, p2, v3, v4, μ => (if 16 ≤ v4 then some v3 else (F_X8_has n0 p2 v4 μ).bind (fun (r_2 : Int32) => (if r_2 = 0 then F_X3_virtualPagesAt_51 (F_X3_virtualPagesAt_13 n0 a0 n) n0 a0 v1 p2 v3 v4 μ else (if 0 ≤ v4 ∧ v4.toNatClampNeg < 16 then (F_X3_frameOfInner n0 a0 (μ (p2 + 1) v4.toNatClampNeg) μ).bind (fun (r_8 : Int32) => (if ¬ r_8 = v1 then F_X3_virtualPagesAt_51 (F_X3_virtualPagesAt_13 n0 a0 n) n0 a0 v1 p2 v3 v4 μ else gw_let ((v3 ||| ((1 : Int32) <<< (v4 &&& 31)))) (fun (w_13 : Int32) => F_X3_virtualPagesAt_51 (F_X3_virtualPagesAt_13 n0 a0 n) n0 a0 v1 p2 w_13 v4 μ))) else none))))
def F_X3_virtualPagesAt (n0 : Nat) (a0 : Nat) (v1 : Int32) (μ : gw_M) : Option (Int32) := (F_X3_inHand n0 a0 μ).bind (fun (r_1 : Nat) => F_X3_virtualPagesAt_13 n0 a0 n0 v1 (r_1 + 7) 0 0 μ)
theorem B_X3_virtualPagesAt_51 {l : Launch} {x : gw_C} {d : Nat} {S : gw_S} {Q : Option Value → gw_S → gw_M → Prop} {K : Nat → gw_Kt} {mc ms cc ss : Nat} (hcc : cc ≤ mc) (hss : ss ≤ ms) (hK : gw_cl l x (d + 2) mc ms bsX3_virtualPagesAt Q K) {a0 : Nat} (hS0 : gw_sh S 3 a0) {rec13 : Int32 → Nat → Int32 → Int32 → gw_M → Option (Int32)} (hrec13 : ∀ {v1 p2 v3 v4} {μ : gw_M} {r}, gw_sh S 8 p2 → rec13 v1 p2 v3 v4 μ = some r → Q (some (.int r)) S μ → K 13 [.ref a0, .int v1, .ref p2, .int v3, .int v4] [] S μ cc ss) {p2 : Nat} (hpp2 : gw_sh S 8 p2) {n0 : Nat} {v1 v3 v4} {μ : gw_M} {r} (h : F_X3_virtualPagesAt_51 rec13 n0 a0 v1 p2 v3 v4 μ = some r) (hq : Q (some (.int r)) S μ) : K 51 [.ref a0, .int v1, .ref p2, .int v3, .int v4] [] S μ cc ss := by
  unfold F_X3_virtualPagesAt_51 at h
  refine hK _ _ _ _ _ _ _ ?_
  rw [fdX3_virtualPagesAt_51]
  simp only [gt_nil, true_and, eq_self, gt_iinc, gt_ink, gw_nth, gw_set, gt_goto, bkX3_virtualPagesAt_51]
  obtain ⟨w_1, hw_1, h⟩ := gw_lt h
  try rw [← hw_1]
  exact hrec13 hpp2 h hq
theorem B_X3_virtualPagesAt_13 {l : Launch} {x : gw_C} {d : Nat} {S : gw_S} {Q : Option Value → gw_S → gw_M → Prop} {K : Nat → gw_Kt} {mc ms cc ss : Nat} (hcc : cc ≤ mc) (hss : ss ≤ ms) (hK : gw_cl l x (d + 2) mc ms bsX3_virtualPagesAt Q K) {a0 : Nat} (hS0 : gw_sh S 3 a0) {n0 : Nat} : ∀ {n : Nat} {v1 p2 v3 v4} {μ : gw_M} {r}, gw_sh S 8 p2 → F_X3_virtualPagesAt_13 n0 a0 n v1 p2 v3 v4 μ = some r → Q (some (.int r)) S μ → K 13 [.ref a0, .int v1, .ref p2, .int v3, .int v4] [] S μ cc ss := by
  have ka0_0 : gw_kd S a0 = 3 := (hS0 0 _ rfl).1
  intro n
  induction n with
  | zero => intro v1 p2 v3 v4 μ r hpp2 h hq; simp [F_X3_virtualPagesAt_13] at h
  | succ n ih =>
    intro v1 p2 v3 v4 μ r hpp2 h hq
    have kp2_0 : gw_kd S p2 = 8 := (hpp2 0 _ rfl).1
    have rp2_0_0 : gw_rf S p2 0 = p2 + 1 := (hpp2 0 _ rfl).2.2 (0, 1) (by decide)
    have kp2_1 : gw_kd S (p2 + 1) = 12 := (hpp2 1 _ rfl).1
    have lp2_1 : gw_ln S (p2 + 1) = 16 := (hpp2 1 _ rfl).2.1
    simp only [F_X3_virtualPagesAt_13] at h
    refine hK _ _ _ _ _ _ _ ?_
    rw [fdX3_virtualPagesAt_13]
    simp only [gt_nil, true_and, eq_self, gt_iload, gt_ink, gw_nth, gt_bipush, gt_icmp, gt_aload_n, gt_rfk, gt_v0, gt_v1, gt_v2, gt_v3, gt_v4, gt_v5, gt_if, gt_get_r, gt_get_i, gt_get_z, gt_iaload, gt_iload_n, gt_iconst, gt_ishl, gt_ior, gt_istore_n, gw_set, bkX3_virtualPagesAt_13, ka0_0, kp2_0, rp2_0_0, kp2_1, lp2_1]
    refine ⟨fun c_1 => ?_, fun c_1 => ?_⟩
    · replace h := gw_ifp2 (gw_c2_ge _ _) h c_1
      refine hK _ _ _ _ _ _ _ ?_
      rw [fdX3_virtualPagesAt_57]
      simp only [gt_nil, true_and, eq_self, gt_iload_n, gt_ink, gw_nth, gt_iret, gt_retz, bkX3_virtualPagesAt_57, ka0_0, kp2_0, rp2_0_0, kp2_1, lp2_1]
      obtain rfl := gw_inj1 h
      exact ⟨hcc, hss, hq⟩
    · replace h := gw_ifn2 (gw_c2_ge _ _) h c_1
      obtain ⟨r_2, e_4, h⟩ := gw_bnd h
      refine ⟨rfl, 0, 0, hcc, hss, ok_X8_has hpp2 e_4 ?_⟩
      intro hbr_2
      simp only [gt_nil, true_and, eq_self, gt_if, gt_aload_n, gt_rfk, gw_nth, gt_get_r, gt_get_i, gt_get_z, gt_iload, gt_ink, gt_iaload, gt_v0, gt_v1, gt_v2, gt_v3, gt_v4, gt_v5, gt_iload_n, gt_icmp, gt_iconst, gt_ishl, gt_ior, gt_istore_n, gw_set, Option.toList, List.cons_append, List.nil_append, Nat.add_zero, ka0_0, kp2_0, rp2_0_0, kp2_1, lp2_1]
      refine ⟨fun c_6 => ?_, fun c_6 => ?_⟩
      · replace h := gw_ifp h c_6
        exact B_X3_virtualPagesAt_51 hcc hss hK hS0 ih hpp2 h hq
      · replace h := gw_ifn h c_6
        obtain ⟨c_7, h⟩ := gw_ife h
        refine ⟨c_7, ?_⟩
        obtain ⟨r_8, e_10, h⟩ := gw_bnd h
        refine ⟨rfl, 0, 0, hcc, hss, ok_X3_frameOfInner hS0 e_10 ?_⟩
        simp only [gt_nil, true_and, eq_self, gt_iload_n, gt_ink, gw_nth, gt_icmp, gt_iconst, gt_iload, gt_ishl, gt_ior, gt_istore_n, gw_set, Option.toList, List.cons_append, List.nil_append, Nat.add_zero, ka0_0, kp2_0, rp2_0_0, kp2_1, lp2_1]
        refine ⟨fun c_12 => ?_, fun c_12 => ?_⟩
        · replace h := gw_ifp2 (gw_c2_ne _ _) h c_12
          exact B_X3_virtualPagesAt_51 hcc hss hK hS0 ih hpp2 h hq
        · replace h := gw_ifn2 (gw_c2_ne _ _) h c_12
          obtain ⟨w_13, hw_13, h⟩ := gw_lt h
          try rw [← hw_13]
          exact B_X3_virtualPagesAt_51 hcc hss hK hS0 ih hpp2 h hq
theorem ok_X3_virtualPagesAt {l : Launch} {x : gw_C} {d : Nat} {S : gw_S} {Q : Option Value → gw_S → gw_M → Prop} {v1 : Int32} {a0 : Nat} {n0 : Nat} {μ : gw_M} {r} (hS0 : gw_sh S 3 a0) (h : F_X3_virtualPagesAt n0 a0 v1 μ = some r) (hq : Q (some (.int r)) S μ) : gw_ok l x (d + 3) sgX3_virtualPagesAt 0 0 [.ref a0, .int v1] S μ Q := by
  refine gw_ok_of stX3_virtualPagesAt (lv0 := [.ref a0, .int v1, .retAddr 0, .retAddr 0, .retAddr 0]) (Nat.le_of_ble_eq_true rfl) rfl rfl ?_
  intro K hK
  have hcc : 0 ≤ 0 := Nat.zero_le _
  have hss : 0 ≤ 0 := Nat.zero_le _
  have ka0_0 : gw_kd S a0 = 3 := (hS0 0 _ rfl).1
  unfold F_X3_virtualPagesAt at h
  refine hK _ _ _ _ _ _ _ ?_
  rw [fdX3_virtualPagesAt_0]
  simp only [gt_nil, true_and, eq_self, gt_aload_n, gt_rfk, gw_nth, gt_v0, gt_v1, gt_v2, gt_v3, gt_v4, gt_v5, gt_get_r, gt_get_i, gt_get_z, gt_astore_n, gw_set, gt_iconst, gt_istore_n, gt_istore, bkX3_virtualPagesAt_0, ka0_0]
  obtain ⟨r_1, e_3, h⟩ := gw_bnd h
  refine ⟨rfl, 0, 0, hcc, hss, ok_X3_inHand hS0 e_3 ?_⟩
  intro hsr_1
  have kr_1_0 : gw_kd S r_1 = 1 := (hsr_1 0 _ rfl).1
  have rr_1_0_1 : gw_rf S r_1 1 = r_1 + 7 := (hsr_1 0 _ rfl).2.2 (1, 7) (by decide)
  simp only [gt_nil, true_and, eq_self, gt_get_r, gt_get_i, gt_get_z, gt_astore_n, gw_set, gt_iconst, gt_istore_n, gt_istore, Option.toList, List.cons_append, List.nil_append, Nat.add_zero, ka0_0, kr_1_0, rr_1_0_1]
  exact B_X3_virtualPagesAt_13 hcc hss hK hS0 (gw_sub hsr_1 8 7 (by decide +kernel)) h hq
def F_X3_plainValue (n0 : Nat) (a0 : Nat) (v1 : Int32) (μ : gw_M) : Option (Int32) := (F_X3_frameOfInner n0 a0 v1 μ).bind (fun (r_1 : Int32) => (if r_1 = (-1) then (F_X3_inHand n0 a0 μ).bind (fun (r_6 : Nat) => (F_X8_has n0 (r_6 + 11) v1 μ).bind (fun (r_10 : Int32) => (if r_10 = 0 then some 0 else (if 0 ≤ v1 ∧ v1.toNatClampNeg < 16 then (if 0 ≤ (μ (r_6 + 12) v1.toNatClampNeg) ∧ (μ (r_6 + 12) v1.toNatClampNeg).toNatClampNeg < 16 then (F_J9_max_7cf53 n0 (μ (a0 + 7) (μ (r_6 + 12) v1.toNatClampNeg).toNatClampNeg) 0 μ).bind (fun (r_17 : Int32) => some r_17) else none) else none)))) else (if 0 ≤ r_1 ∧ r_1.toNatClampNeg < 10 then some (μ (a0 + 6) r_1.toNatClampNeg) else none)))
theorem ok_X3_plainValue {l : Launch} {x : gw_C} {d : Nat} {S : gw_S} {Q : Option Value → gw_S → gw_M → Prop} {v1 : Int32} {a0 : Nat} {n0 : Nat} {μ : gw_M} {r} (hS0 : gw_sh S 3 a0) (h : F_X3_plainValue n0 a0 v1 μ = some r) (hq : Q (some (.int r)) S μ) : gw_ok l x (d + 3) sgX3_plainValue 0 0 [.ref a0, .int v1] S μ Q := by
  refine gw_ok_of stX3_plainValue (lv0 := [.ref a0, .int v1, .retAddr 0, .retAddr 0]) (Nat.le_of_ble_eq_true rfl) rfl rfl ?_
  intro K hK
  have hcc : 0 ≤ 0 := Nat.zero_le _
  have hss : 0 ≤ 0 := Nat.zero_le _
  have ka0_0 : gw_kd S a0 = 3 := (hS0 0 _ rfl).1
  have ra0_0_0 : gw_rf S a0 0 = a0 + 1 := (hS0 0 _ rfl).2.2 (0, 1) (by decide)
  have ka0_1 : gw_kd S (a0 + 1) = 4 := (hS0 1 _ rfl).1
  have ra0_1_1 : gw_rf S (a0 + 1) 1 = a0 + 6 := (hS0 1 _ rfl).2.2 (1, 6) (by decide)
  have ra0_1_2 : gw_rf S (a0 + 1) 2 = a0 + 7 := (hS0 1 _ rfl).2.2 (2, 7) (by decide)
  have ka0_6 : gw_kd S (a0 + 6) = 12 := (hS0 6 _ rfl).1
  have la0_6 : gw_ln S (a0 + 6) = 10 := (hS0 6 _ rfl).2.1
  have ka0_7 : gw_kd S (a0 + 7) = 12 := (hS0 7 _ rfl).1
  have la0_7 : gw_ln S (a0 + 7) = 16 := (hS0 7 _ rfl).2.1
  unfold F_X3_plainValue at h
  refine hK _ _ _ _ _ _ _ ?_
  rw [fdX3_plainValue_0]
  simp only [gt_nil, true_and, eq_self, gt_aload_n, gt_rfk, gw_nth, gt_iload_n, gt_ink, gt_v0, gt_v1, gt_v2, gt_v3, gt_v4, gt_v5, gt_istore_n, gw_set, gt_iconst, gt_icmp, gt_get_r, gt_get_i, gt_get_z, gt_iaload, gt_iret, gt_retz, bkX3_plainValue_0, ka0_0, ra0_0_0, ka0_1, ra0_1_1, ra0_1_2, ka0_6, la0_6, ka0_7, la0_7]
  obtain ⟨r_1, e_3, h⟩ := gw_bnd h
  refine ⟨rfl, 0, 0, hcc, hss, ok_X3_frameOfInner hS0 e_3 ?_⟩
  simp only [gt_nil, true_and, eq_self, gt_istore_n, gw_set, gt_iload_n, gt_ink, gw_nth, gt_iconst, gt_icmp, gt_aload_n, gt_rfk, gt_get_r, gt_get_i, gt_get_z, gt_iaload, gt_iret, gt_retz, Option.toList, List.cons_append, List.nil_append, Nat.add_zero, ka0_0, ra0_0_0, ka0_1, ra0_1_1, ra0_1_2, ka0_6, la0_6, ka0_7, la0_7]
  refine ⟨fun c_5 => ?_, fun c_5 => ?_⟩
  · replace h := gw_ifp2 (gw_c2_eq _ _) h c_5
    refine hK _ _ _ _ _ _ _ ?_
    rw [fdX3_plainValue_21]
    simp only [gt_nil, true_and, eq_self, gt_aload_n, gt_rfk, gw_nth, gt_v0, gt_v1, gt_v2, gt_v3, gt_v4, gt_v5, gt_get_r, gt_get_i, gt_get_z, gt_astore_n, gw_set, gt_iload_n, gt_ink, gt_if, gt_iaload, gt_iconst, gt_s1_0, gt_s2_0, gt_s3_0, gt_s4_0, gt_s1_1, gt_s2_1, gt_s3_1, gt_s4_1, gt_acpy, gt_goto, bkX3_plainValue_21, ka0_0, ra0_0_0, ka0_1, ra0_1_1, ra0_1_2, ka0_6, la0_6, ka0_7, la0_7]
    obtain ⟨r_6, e_8, h⟩ := gw_bnd h
    refine ⟨rfl, 0, 0, hcc, hss, ok_X3_inHand hS0 e_8 ?_⟩
    intro hsr_6
    have kr_6_0 : gw_kd S r_6 = 1 := (hsr_6 0 _ rfl).1
    have rr_6_0_2 : gw_rf S r_6 2 = r_6 + 11 := (hsr_6 0 _ rfl).2.2 (2, 11) (by decide)
    have kr_6_11 : gw_kd S (r_6 + 11) = 8 := (hsr_6 11 _ rfl).1
    have rr_6_11_0 : gw_rf S (r_6 + 11) 0 = r_6 + 12 := (hsr_6 11 _ rfl).2.2 (0, 12) (by decide)
    have kr_6_12 : gw_kd S (r_6 + 12) = 12 := (hsr_6 12 _ rfl).1
    have lr_6_12 : gw_ln S (r_6 + 12) = 16 := (hsr_6 12 _ rfl).2.1
    simp only [gt_nil, true_and, eq_self, gt_get_r, gt_get_i, gt_get_z, gt_astore_n, gw_set, gt_aload_n, gt_rfk, gw_nth, gt_iload_n, gt_ink, gt_v0, gt_v1, gt_v2, gt_v3, gt_v4, gt_v5, gt_if, gt_iaload, gt_iconst, gt_s1_0, gt_s2_0, gt_s3_0, gt_s4_0, gt_s1_1, gt_s2_1, gt_s3_1, gt_s4_1, gt_acpy, gt_goto, Option.toList, List.cons_append, List.nil_append, Nat.add_zero, ka0_0, ra0_0_0, ka0_1, ra0_1_1, ra0_1_2, ka0_6, la0_6, ka0_7, la0_7, kr_6_0, rr_6_0_2, kr_6_11, rr_6_11_0, kr_6_12, lr_6_12]
    obtain ⟨r_10, e_12, h⟩ := gw_bnd h
    refine ⟨rfl, 0, 0, hcc, hss, ok_X8_has (gw_sub hsr_6 8 11 (by decide +kernel)) e_12 ?_⟩
    intro hbr_10
    simp only [gt_nil, true_and, eq_self, gt_if, gt_aload_n, gt_rfk, gw_nth, gt_get_r, gt_get_i, gt_get_z, gt_iload_n, gt_ink, gt_iaload, gt_iconst, gt_s1_0, gt_s2_0, gt_s3_0, gt_s4_0, gt_s1_1, gt_s2_1, gt_s3_1, gt_s4_1, gt_acpy, gt_goto, Option.toList, List.cons_append, List.nil_append, Nat.add_zero, ka0_0, ra0_0_0, ka0_1, ra0_1_1, ra0_1_2, ka0_6, la0_6, ka0_7, la0_7, kr_6_0, rr_6_0_2, kr_6_11, rr_6_11_0, kr_6_12, lr_6_12]
    refine ⟨fun c_14 => ?_, fun c_14 => ?_⟩
    · replace h := gw_ifp h c_14
      refine hK _ _ _ _ _ _ _ ?_
      rw [fdX3_plainValue_58]
      simp only [gt_nil, true_and, eq_self, gt_iconst, bkX3_plainValue_58, ka0_0, ra0_0_0, ka0_1, ra0_1_1, ra0_1_2, ka0_6, la0_6, ka0_7, la0_7, kr_6_0, rr_6_0_2, kr_6_11, rr_6_11_0, kr_6_12, lr_6_12]
      refine hK _ _ _ _ _ _ _ ?_
      rw [fdX3_plainValue_59]
      simp only [gt_nil, true_and, eq_self, gt_iret, gt_retz, bkX3_plainValue_59, ka0_0, ra0_0_0, ka0_1, ra0_1_1, ra0_1_2, ka0_6, la0_6, ka0_7, la0_7, kr_6_0, rr_6_0_2, kr_6_11, rr_6_11_0, kr_6_12, lr_6_12]
      obtain rfl := gw_inj1 h
      exact ⟨hcc, hss, hq⟩
    · replace h := gw_ifn h c_14
      obtain ⟨c_15, h⟩ := gw_ife h
      refine ⟨c_15, ?_⟩
      obtain ⟨c_16, h⟩ := gw_ife h
      refine ⟨c_16, ?_⟩
      obtain ⟨r_17, e_19, h⟩ := gw_bnd h
      refine ⟨rfl, 0, 0, hcc, hss, ok_J9_max_7cf53 e_19 ?_⟩
      simp only [gt_nil, true_and, eq_self, gt_goto, Option.toList, List.cons_append, List.nil_append, Nat.add_zero, ka0_0, ra0_0_0, ka0_1, ra0_1_1, ra0_1_2, ka0_6, la0_6, ka0_7, la0_7, kr_6_0, rr_6_0_2, kr_6_11, rr_6_11_0, kr_6_12, lr_6_12]
      refine hK _ _ _ _ _ _ _ ?_
      rw [fdX3_plainValue_59]
      simp only [gt_nil, true_and, eq_self, gt_iret, gt_retz, bkX3_plainValue_59, ka0_0, ra0_0_0, ka0_1, ra0_1_1, ra0_1_2, ka0_6, la0_6, ka0_7, la0_7, kr_6_0, rr_6_0_2, kr_6_11, rr_6_11_0, kr_6_12, lr_6_12]
      obtain rfl := gw_inj1 h
      exact ⟨hcc, hss, hq⟩
  · replace h := gw_ifn2 (gw_c2_eq _ _) h c_5
    obtain ⟨c_21, h⟩ := gw_ife h
    refine ⟨c_21, ?_⟩
    obtain rfl := gw_inj1 h
    exact ⟨hcc, hss, hq⟩
def F_X6_startFrom_13 (n0 : Nat) (a0 : Nat) : Nat → Nat → Int32 → gw_M → Option (gw_M)
  | 0, _, _, _ => none
  | n + 1, p1, v2, μ => (if 16 ≤ v2 then gw_let (gw_up μ a0 2 0) (fun (μ_2 : gw_M) => gw_let (gw_up μ_2 a0 3 (-1)) (fun (μ_3 : gw_M) => some μ_3)) else (F_X3_plainValue n0 p1 v2 μ).bind (fun (r_4 : Int32) => (if 0 ≤ v2 ∧ v2.toNatClampNeg < 16 then gw_let (gw_up μ (a0 + 16) v2.toNatClampNeg r_4) (fun (μ_9 : gw_M) => gw_let (v2 + 1) (fun (w_10 : Int32) => F_X6_startFrom_13 n0 a0 n p1 w_10 μ_9)) else none)))
def F_X6_startFrom (n0 : Nat) (a0 : Nat) (p1 : Nat) (μ : gw_M) : Option (gw_M) := (F_X3_inHand n0 p1 μ).bind (fun (r_1 : Nat) => (F_X1_copyFrom n0 (a0 + 1) r_1 μ).bind (fun (μ_6 : gw_M) => F_X6_startFrom_13 n0 a0 n0 p1 0 μ_6))
theorem B_X6_startFrom_13 {l : Launch} {x : gw_C} {d : Nat} {S : gw_S} {Q : Option Value → gw_S → gw_M → Prop} {K : Nat → gw_Kt} {mc ms cc ss : Nat} (hcc : cc ≤ mc) (hss : ss ≤ ms) (hK : gw_cl l x (d + 3) mc ms bsX6_startFrom Q K) {a0 : Nat} (hS0 : gw_sh S 6 a0) {n0 : Nat} : ∀ {n : Nat} {p1 v2} {μ : gw_M} {μ'}, gw_sh S 3 p1 → F_X6_startFrom_13 n0 a0 n p1 v2 μ = some μ' → Q none S μ' → K 13 [.ref a0, .ref p1, .int v2] [] S μ cc ss := by
  have ka0_0 : gw_kd S a0 = 6 := (hS0 0 _ rfl).1
  have ra0_0_1 : gw_rf S a0 1 = a0 + 16 := (hS0 0 _ rfl).2.2 (1, 16) (by decide)
  have ka0_16 : gw_kd S (a0 + 16) = 12 := (hS0 16 _ rfl).1
  have la0_16 : gw_ln S (a0 + 16) = 16 := (hS0 16 _ rfl).2.1
  intro n
  induction n with
  | zero => intro p1 v2 μ μ' hpp1 h hq; simp [F_X6_startFrom_13] at h
  | succ n ih =>
    intro p1 v2 μ μ' hpp1 h hq
    have kp1_0 : gw_kd S p1 = 3 := (hpp1 0 _ rfl).1
    simp only [F_X6_startFrom_13] at h
    refine hK _ _ _ _ _ _ _ ?_
    rw [fdX6_startFrom_13]
    simp only [gt_nil, true_and, eq_self, gt_iload_n, gt_ink, gw_nth, gt_bipush, gt_icmp, gt_aload_n, gt_rfk, gt_get_r, gt_get_i, gt_get_z, gt_v0, gt_v1, gt_v2, gt_v3, gt_v4, gt_v5, gt_iastore, gt_iinc, gw_set, gt_goto, bkX6_startFrom_13, ka0_0, ra0_0_1, ka0_16, la0_16, kp1_0]
    refine ⟨fun c_1 => ?_, fun c_1 => ?_⟩
    · replace h := gw_ifp2 (gw_c2_ge _ _) h c_1
      refine hK _ _ _ _ _ _ _ ?_
      rw [fdX6_startFrom_36]
      simp only [gt_nil, true_and, eq_self, gt_aload_n, gt_rfk, gw_nth, gt_iconst, gt_put_i, gt_putz, gt_vret, bkX6_startFrom_36, ka0_0, ra0_0_1, ka0_16, la0_16, kp1_0]
      obtain ⟨μ_2, hμ_2, h⟩ := gw_lt h
      try rw [← hμ_2]
      obtain ⟨μ_3, hμ_3, h⟩ := gw_lt h
      try rw [← hμ_3]
      obtain rfl := gw_inj1 h
      exact ⟨hcc, hss, hq⟩
    · replace h := gw_ifn2 (gw_c2_ge _ _) h c_1
      obtain ⟨r_4, e_6, h⟩ := gw_bnd h
      refine ⟨rfl, 0, 0, hcc, hss, ok_X3_plainValue hpp1 e_6 ?_⟩
      simp only [gt_nil, true_and, eq_self, gt_iastore, gt_iinc, gt_ink, gw_nth, gw_set, gt_goto, Option.toList, List.cons_append, List.nil_append, Nat.add_zero, ka0_0, ra0_0_1, ka0_16, la0_16, kp1_0]
      obtain ⟨c_8, h⟩ := gw_ife h
      refine ⟨c_8, ?_⟩
      obtain ⟨μ_9, hμ_9, h⟩ := gw_lt h
      try rw [← hμ_9]
      obtain ⟨w_10, hw_10, h⟩ := gw_lt h
      try rw [← hw_10]
      exact ih hpp1 h hq
theorem ok_X6_startFrom {l : Launch} {x : gw_C} {d : Nat} {S : gw_S} {Q : Option Value → gw_S → gw_M → Prop} {a0 p1 : Nat} {n0 : Nat} {μ : gw_M} {μ'} (hS0 : gw_sh S 6 a0) (hpp1 : gw_sh S 3 p1) (h : F_X6_startFrom n0 a0 p1 μ = some μ') (hq : Q none S μ') : gw_ok l x (d + 4) sgX6_startFrom 0 0 [.ref a0, .ref p1] S μ Q := by
  refine gw_ok_of stX6_startFrom (lv0 := [.ref a0, .ref p1, .retAddr 0]) (Nat.le_of_ble_eq_true rfl) rfl rfl ?_
  intro K hK
  have hcc : 0 ≤ 0 := Nat.zero_le _
  have hss : 0 ≤ 0 := Nat.zero_le _
  have ka0_0 : gw_kd S a0 = 6 := (hS0 0 _ rfl).1
  have ra0_0_0 : gw_rf S a0 0 = a0 + 1 := (hS0 0 _ rfl).2.2 (0, 1) (by decide)
  have ka0_1 : gw_kd S (a0 + 1) = 1 := (hS0 1 _ rfl).1
  have kp1_0 : gw_kd S p1 = 3 := (hpp1 0 _ rfl).1
  unfold F_X6_startFrom at h
  refine hK _ _ _ _ _ _ _ ?_
  rw [fdX6_startFrom_0]
  simp only [gt_nil, true_and, eq_self, gt_aload_n, gt_rfk, gw_nth, gt_get_r, gt_get_i, gt_get_z, gt_v0, gt_v1, gt_v2, gt_v3, gt_v4, gt_v5, gt_iconst, gt_istore_n, gw_set, bkX6_startFrom_0, ka0_0, ra0_0_0, ka0_1, kp1_0]
  obtain ⟨r_1, e_3, h⟩ := gw_bnd h
  refine ⟨rfl, 0, 0, hcc, hss, ok_X3_inHand hpp1 e_3 ?_⟩
  intro hsr_1
  have kr_1_0 : gw_kd S r_1 = 1 := (hsr_1 0 _ rfl).1
  simp only [gt_nil, true_and, eq_self, gt_v0, gt_v1, gt_v2, gt_v3, gt_v4, gt_v5, gt_iconst, gt_istore_n, gw_set, Option.toList, List.cons_append, List.nil_append, Nat.add_zero, ka0_0, ra0_0_0, ka0_1, kp1_0, kr_1_0]
  obtain ⟨μ_6, e_7, h⟩ := gw_bnd h
  refine ⟨rfl, 0, 0, hcc, hss, ok_X1_copyFrom (gw_sub hS0 1 1 (by decide +kernel)) hsr_1 e_7 ?_⟩
  simp only [gt_nil, true_and, eq_self, gt_iconst, gt_istore_n, gw_set, Option.toList, List.cons_append, List.nil_append, Nat.add_zero, ka0_0, ra0_0_0, ka0_1, kp1_0, kr_1_0]
  exact B_X6_startFrom_13 hcc hss hK hS0 hpp1 h hq
def F_X10_isWay (n0 : Nat) (v0 : Int32) (μ : gw_M) : Option (Int32) := (F_X10_within n0 v0 0 2 μ).bind (fun (r_1 : Int32) => some r_1)
theorem ok_X10_isWay {l : Launch} {x : gw_C} {d : Nat} {S : gw_S} {Q : Option Value → gw_S → gw_M → Prop} {v0 : Int32} {n0 : Nat} {μ : gw_M} {r} (h : F_X10_isWay n0 v0 μ = some r) (hq : ((r = 0 ∨ r = 1) → Q (some (.int r)) S μ)) : gw_ok l x (d + 2) sgX10_isWay 0 0 [.int v0] S μ Q := by
  refine gw_ok_of stX10_isWay (lv0 := [.int v0]) (Nat.le_of_ble_eq_true rfl) rfl rfl ?_
  intro K hK
  have hcc : 0 ≤ 0 := Nat.zero_le _
  have hss : 0 ≤ 0 := Nat.zero_le _
  unfold F_X10_isWay at h
  refine hK _ _ _ _ _ _ _ ?_
  rw [fdX10_isWay_0]
  simp only [gt_nil, true_and, eq_self, gt_iload_n, gt_ink, gw_nth, gt_iconst, gt_s1_0, gt_s2_0, gt_s3_0, gt_s4_0, gt_s1_1, gt_s2_1, gt_s3_1, gt_s4_1, gt_acpy, gt_iret, gt_retz, bkX10_isWay_0]
  obtain ⟨r_1, e_3, h⟩ := gw_bnd h
  refine ⟨rfl, 0, 0, hcc, hss, ok_X10_within e_3 ?_⟩
  intro hbr_1
  simp only [gt_nil, true_and, eq_self, gt_iret, gt_retz, Option.toList, List.cons_append, List.nil_append, Nat.add_zero]
  obtain rfl := gw_inj1 h
  exact ⟨hbr_1, hcc, hss, hq hbr_1⟩
def F_X6_touchFrom (n0 : Nat) (a0 : Nat) (v1 : Int32) (v2 : Int32) (v3 : Int32) (v4 : Int32) (μ : gw_M) : Option (gw_M) := (F_X8_gives n0 (a0 + 8) v2 v3 μ).bind (fun (r_1 : Int32) => (if ¬ r_1 = 0 then (if 0 ≤ v2 ∧ v2.toNatClampNeg < 16 then gw_let ((μ (a0 + 9) v2.toNatClampNeg)) (fun (w_7 : Int32) => (if ¬ v3 = 1 then (if 0 ≤ w_7 ∧ w_7.toNatClampNeg < 16 then gw_let (gw_up μ a0 3 (μ (a0 + 16) w_7.toNatClampNeg)) (fun (μ_10 : gw_M) => some μ_10) else none) else (if 0 ≤ w_7 ∧ w_7.toNatClampNeg < 16 then gw_let (gw_up μ (a0 + 16) w_7.toNatClampNeg v4) (fun (μ_12 : gw_M) => some μ_12) else none))) else none) else gw_let (gw_up μ a0 2 ((μ a0 2) + (1 : Int32))) (fun (μ_13 : gw_M) => gw_let (gw_up μ_13 (a0 + 1) 4 v2) (fun (μ_14 : gw_M) => (F_X1_trapAt n0 (a0 + 1) v1 μ_14).bind (fun (μ_16 : gw_M) => some μ_16)))))
theorem ok_X6_touchFrom {l : Launch} {x : gw_C} {d : Nat} {S : gw_S} {Q : Option Value → gw_S → gw_M → Prop} {v1 v2 v3 v4 : Int32} {a0 : Nat} {n0 : Nat} {μ : gw_M} {μ'} (hS0 : gw_sh S 6 a0) (h : F_X6_touchFrom n0 a0 v1 v2 v3 v4 μ = some μ') (hq : Q none S μ') : gw_ok l x (d + 3) sgX6_touchFrom 0 0 [.ref a0, .int v1, .int v2, .int v3, .int v4] S μ Q := by
  refine gw_ok_of stX6_touchFrom (lv0 := [.ref a0, .int v1, .int v2, .int v3, .int v4, .retAddr 0]) (Nat.le_of_ble_eq_true rfl) rfl rfl ?_
  intro K hK
  have hcc : 0 ≤ 0 := Nat.zero_le _
  have hss : 0 ≤ 0 := Nat.zero_le _
  have ka0_0 : gw_kd S a0 = 6 := (hS0 0 _ rfl).1
  have ra0_0_0 : gw_rf S a0 0 = a0 + 1 := (hS0 0 _ rfl).2.2 (0, 1) (by decide)
  have ra0_0_1 : gw_rf S a0 1 = a0 + 16 := (hS0 0 _ rfl).2.2 (1, 16) (by decide)
  have ka0_1 : gw_kd S (a0 + 1) = 1 := (hS0 1 _ rfl).1
  have ra0_1_1 : gw_rf S (a0 + 1) 1 = a0 + 8 := (hS0 1 _ rfl).2.2 (1, 8) (by decide)
  have ka0_16 : gw_kd S (a0 + 16) = 12 := (hS0 16 _ rfl).1
  have la0_16 : gw_ln S (a0 + 16) = 16 := (hS0 16 _ rfl).2.1
  have ka0_8 : gw_kd S (a0 + 8) = 8 := (hS0 8 _ rfl).1
  have ra0_8_0 : gw_rf S (a0 + 8) 0 = a0 + 9 := (hS0 8 _ rfl).2.2 (0, 9) (by decide)
  have ka0_9 : gw_kd S (a0 + 9) = 12 := (hS0 9 _ rfl).1
  have la0_9 : gw_ln S (a0 + 9) = 16 := (hS0 9 _ rfl).2.1
  unfold F_X6_touchFrom at h
  refine hK _ _ _ _ _ _ _ ?_
  rw [fdX6_touchFrom_0]
  simp only [gt_nil, true_and, eq_self, gt_aload_n, gt_rfk, gw_nth, gt_get_r, gt_get_i, gt_get_z, gt_iload_n, gt_ink, gt_v0, gt_v1, gt_v2, gt_v3, gt_v4, gt_v5, gt_if, gt_dup_i, gt_dup_r, gt_iconst, gt_iadd, gt_put_i, gt_putz, gt_vret, bkX6_touchFrom_0, ka0_0, ra0_0_0, ra0_0_1, ka0_1, ra0_1_1, ka0_16, la0_16, ka0_8, ra0_8_0, ka0_9, la0_9]
  obtain ⟨r_1, e_3, h⟩ := gw_bnd h
  refine ⟨rfl, 0, 0, hcc, hss, ok_X8_gives (gw_sub hS0 8 8 (by decide +kernel)) e_3 ?_⟩
  intro hbr_1
  simp only [gt_nil, true_and, eq_self, gt_if, gt_aload_n, gt_rfk, gw_nth, gt_dup_i, gt_dup_r, gt_get_r, gt_get_i, gt_get_z, gt_iconst, gt_iadd, gt_put_i, gt_putz, gt_iload_n, gt_ink, gt_v0, gt_v1, gt_v2, gt_v3, gt_v4, gt_v5, gt_vret, Option.toList, List.cons_append, List.nil_append, Nat.add_zero, ka0_0, ra0_0_0, ra0_0_1, ka0_1, ra0_1_1, ka0_16, la0_16, ka0_8, ra0_8_0, ka0_9, la0_9]
  refine ⟨fun c_5 => ?_, fun c_5 => ?_⟩
  · replace h := gw_ifp h c_5
    refine hK _ _ _ _ _ _ _ ?_
    rw [fdX6_touchFrom_42]
    simp only [gt_nil, true_and, eq_self, gt_aload_n, gt_rfk, gw_nth, gt_get_r, gt_get_i, gt_get_z, gt_iload_n, gt_ink, gt_iaload, gt_istore, gw_set, gt_iconst, gt_icmp, gt_iload, gt_iastore, gt_goto, bkX6_touchFrom_42, ka0_0, ra0_0_0, ra0_0_1, ka0_1, ra0_1_1, ka0_16, la0_16, ka0_8, ra0_8_0, ka0_9, la0_9]
    obtain ⟨c_6, h⟩ := gw_ife h
    refine ⟨c_6, ?_⟩
    obtain ⟨w_7, hw_7, h⟩ := gw_lt h
    try rw [← hw_7]
    refine ⟨fun c_8 => ?_, fun c_8 => ?_⟩
    · replace h := gw_ifp2 (gw_c2_ne _ _) h c_8
      refine hK _ _ _ _ _ _ _ ?_
      rw [fdX6_touchFrom_73]
      simp only [gt_nil, true_and, eq_self, gt_aload_n, gt_rfk, gw_nth, gt_get_r, gt_get_i, gt_get_z, gt_iload, gt_ink, gt_iaload, gt_put_i, gt_putz, bkX6_touchFrom_73, ka0_0, ra0_0_0, ra0_0_1, ka0_1, ra0_1_1, ka0_16, la0_16, ka0_8, ra0_8_0, ka0_9, la0_9]
      obtain ⟨c_9, h⟩ := gw_ife h
      refine ⟨c_9, ?_⟩
      obtain ⟨μ_10, hμ_10, h⟩ := gw_lt h
      try rw [← hμ_10]
      refine hK _ _ _ _ _ _ _ ?_
      rw [fdX6_touchFrom_84]
      simp only [gt_nil, true_and, eq_self, gt_vret, bkX6_touchFrom_84, ka0_0, ra0_0_0, ra0_0_1, ka0_1, ra0_1_1, ka0_16, la0_16, ka0_8, ra0_8_0, ka0_9, la0_9]
      obtain rfl := gw_inj1 h
      exact ⟨hcc, hss, hq⟩
    · replace h := gw_ifn2 (gw_c2_ne _ _) h c_8
      obtain ⟨c_11, h⟩ := gw_ife h
      refine ⟨c_11, ?_⟩
      obtain ⟨μ_12, hμ_12, h⟩ := gw_lt h
      try rw [← hμ_12]
      refine hK _ _ _ _ _ _ _ ?_
      rw [fdX6_touchFrom_84]
      simp only [gt_nil, true_and, eq_self, gt_vret, bkX6_touchFrom_84, ka0_0, ra0_0_0, ra0_0_1, ka0_1, ra0_1_1, ka0_16, la0_16, ka0_8, ra0_8_0, ka0_9, la0_9]
      obtain rfl := gw_inj1 h
      exact ⟨hcc, hss, hq⟩
  · replace h := gw_ifn h c_5
    obtain ⟨μ_13, hμ_13, h⟩ := gw_lt h
    try rw [← hμ_13]
    obtain ⟨μ_14, hμ_14, h⟩ := gw_lt h
    try rw [← hμ_14]
    obtain ⟨μ_16, e_17, h⟩ := gw_bnd h
    refine ⟨rfl, 0, 0, hcc, hss, ok_X1_trapAt (gw_sub hS0 1 1 (by decide +kernel)) e_17 ?_⟩
    simp only [gt_nil, true_and, eq_self, gt_vret, Option.toList, List.cons_append, List.nil_append, Nat.add_zero, ka0_0, ra0_0_0, ra0_0_1, ka0_1, ra0_1_1, ka0_16, la0_16, ka0_8, ra0_8_0, ka0_9, la0_9]
    obtain rfl := gw_inj1 h
    exact ⟨hcc, hss, hq⟩
def F_X6_goOn (n0 : Nat) (a0 : Nat) (μ : gw_M) : Option (gw_M) := (if ¬ (μ (a0 + 3) 3) = 0 then (gw_bi (F_X7_advance n0 (a0 + 3) μ) (fun (r_2 : Int32) (μ_3 : gw_M) => (if 0 ≤ r_2 ∧ r_2.toNatClampNeg < 24 then gw_let ((μ_3 (a0 + 4) r_2.toNatClampNeg)) (fun (w_7 : Int32) => (F_X10_isWay n0 w_7 μ_3).bind (fun (r_8 : Int32) => (if r_8 = 0 then (if 0 ≤ r_2 ∧ r_2.toNatClampNeg < 24 then (if 0 ≤ r_2 ∧ r_2.toNatClampNeg < 24 then (F_X1_actAlone n0 (a0 + 1) w_7 (μ_3 (a0 + 5) r_2.toNatClampNeg) (μ_3 (a0 + 6) r_2.toNatClampNeg) μ_3).bind (fun (μ_16 : gw_M) => some μ_16) else none) else none) else (if 0 ≤ r_2 ∧ r_2.toNatClampNeg < 24 then (if 0 ≤ r_2 ∧ r_2.toNatClampNeg < 24 then (F_X6_touchFrom n0 a0 r_2 (μ_3 (a0 + 5) r_2.toNatClampNeg) w_7 (μ_3 (a0 + 6) r_2.toNatClampNeg) μ_3).bind (fun (μ_22 : gw_M) => some μ_22) else none) else none)))) else none))) else some μ)
theorem ok_X6_goOn {l : Launch} {x : gw_C} {d : Nat} {S : gw_S} {Q : Option Value → gw_S → gw_M → Prop} {a0 : Nat} {n0 : Nat} {μ : gw_M} {μ'} (hS0 : gw_sh S 6 a0) (h : F_X6_goOn n0 a0 μ = some μ') (hq : Q none S μ') : gw_ok l x (d + 4) sgX6_goOn 0 0 [.ref a0] S μ Q := by
  refine gw_ok_of stX6_goOn (lv0 := [.ref a0, .retAddr 0, .retAddr 0, .retAddr 0]) (Nat.le_of_ble_eq_true rfl) rfl rfl ?_
  intro K hK
  have hcc : 0 ≤ 0 := Nat.zero_le _
  have hss : 0 ≤ 0 := Nat.zero_le _
  have ka0_0 : gw_kd S a0 = 6 := (hS0 0 _ rfl).1
  have ra0_0_0 : gw_rf S a0 0 = a0 + 1 := (hS0 0 _ rfl).2.2 (0, 1) (by decide)
  have ka0_1 : gw_kd S (a0 + 1) = 1 := (hS0 1 _ rfl).1
  have ra0_1_0 : gw_rf S (a0 + 1) 0 = a0 + 2 := (hS0 1 _ rfl).2.2 (0, 2) (by decide)
  have ka0_2 : gw_kd S (a0 + 2) = 0 := (hS0 2 _ rfl).1
  have ra0_2_0 : gw_rf S (a0 + 2) 0 = a0 + 3 := (hS0 2 _ rfl).2.2 (0, 3) (by decide)
  have ka0_3 : gw_kd S (a0 + 3) = 7 := (hS0 3 _ rfl).1
  have ra0_3_0 : gw_rf S (a0 + 3) 0 = a0 + 4 := (hS0 3 _ rfl).2.2 (0, 4) (by decide)
  have ra0_3_1 : gw_rf S (a0 + 3) 1 = a0 + 5 := (hS0 3 _ rfl).2.2 (1, 5) (by decide)
  have ra0_3_2 : gw_rf S (a0 + 3) 2 = a0 + 6 := (hS0 3 _ rfl).2.2 (2, 6) (by decide)
  have ka0_4 : gw_kd S (a0 + 4) = 12 := (hS0 4 _ rfl).1
  have la0_4 : gw_ln S (a0 + 4) = 24 := (hS0 4 _ rfl).2.1
  have ka0_5 : gw_kd S (a0 + 5) = 12 := (hS0 5 _ rfl).1
  have la0_5 : gw_ln S (a0 + 5) = 24 := (hS0 5 _ rfl).2.1
  have ka0_6 : gw_kd S (a0 + 6) = 12 := (hS0 6 _ rfl).1
  have la0_6 : gw_ln S (a0 + 6) = 24 := (hS0 6 _ rfl).2.1
  unfold F_X6_goOn at h
  refine hK _ _ _ _ _ _ _ ?_
  rw [fdX6_goOn_0]
  simp only [gt_nil, true_and, eq_self, gt_aload_n, gt_rfk, gw_nth, gt_get_r, gt_get_i, gt_get_z, gt_astore_n, gw_set, gt_if, gt_vret, bkX6_goOn_0, ka0_0, ra0_0_0, ka0_1, ra0_1_0, ka0_2, ra0_2_0, ka0_3, ra0_3_0, ra0_3_1, ra0_3_2, ka0_4, la0_4, ka0_5, la0_5, ka0_6, la0_6]
  refine ⟨fun c_1 => ?_, fun c_1 => ?_⟩
  · replace h := gw_ifp h c_1
    refine hK _ _ _ _ _ _ _ ?_
    rw [fdX6_goOn_19]
    simp only [gt_nil, true_and, eq_self, gt_aload_n, gt_rfk, gw_nth, gt_v0, gt_v1, gt_v2, gt_v3, gt_v4, gt_v5, gt_istore_n, gw_set, gt_get_r, gt_get_i, gt_get_z, gt_iload_n, gt_ink, gt_iaload, gt_s1_0, gt_s2_0, gt_s3_0, gt_s4_0, gt_s1_1, gt_s2_1, gt_s3_1, gt_s4_1, gt_acpy, gt_if, gt_goto, bkX6_goOn_19, ka0_0, ra0_0_0, ka0_1, ra0_1_0, ka0_2, ra0_2_0, ka0_3, ra0_3_0, ra0_3_1, ra0_3_2, ka0_4, la0_4, ka0_5, la0_5, ka0_6, la0_6]
    obtain ⟨r_2, μ_3, e_4, h⟩ := gw_bnd2 h
    refine ⟨rfl, 0, 0, hcc, hss, ok_X7_advance (gw_sub hS0 7 3 (by decide +kernel)) e_4 ?_⟩
    simp only [gt_nil, true_and, eq_self, gt_istore_n, gw_set, gt_aload_n, gt_rfk, gw_nth, gt_get_r, gt_get_i, gt_get_z, gt_iload_n, gt_ink, gt_iaload, gt_s1_0, gt_s2_0, gt_s3_0, gt_s4_0, gt_s1_1, gt_s2_1, gt_s3_1, gt_s4_1, gt_acpy, gt_if, gt_v0, gt_v1, gt_v2, gt_v3, gt_v4, gt_v5, gt_goto, Option.toList, List.cons_append, List.nil_append, Nat.add_zero, ka0_0, ra0_0_0, ka0_1, ra0_1_0, ka0_2, ra0_2_0, ka0_3, ra0_3_0, ra0_3_1, ra0_3_2, ka0_4, la0_4, ka0_5, la0_5, ka0_6, la0_6]
    obtain ⟨c_6, h⟩ := gw_ife h
    refine ⟨c_6, ?_⟩
    obtain ⟨w_7, hw_7, h⟩ := gw_lt h
    try rw [← hw_7]
    obtain ⟨r_8, e_10, h⟩ := gw_bnd h
    refine ⟨rfl, 0, 0, hcc, hss, ok_X10_isWay e_10 ?_⟩
    intro hbr_8
    simp only [gt_nil, true_and, eq_self, gt_if, gt_aload_n, gt_rfk, gw_nth, gt_iload_n, gt_ink, gt_get_r, gt_get_i, gt_get_z, gt_iaload, gt_v0, gt_v1, gt_v2, gt_v3, gt_v4, gt_v5, gt_goto, Option.toList, List.cons_append, List.nil_append, Nat.add_zero, ka0_0, ra0_0_0, ka0_1, ra0_1_0, ka0_2, ra0_2_0, ka0_3, ra0_3_0, ra0_3_1, ra0_3_2, ka0_4, la0_4, ka0_5, la0_5, ka0_6, la0_6]
    refine ⟨fun c_12 => ?_, fun c_12 => ?_⟩
    · replace h := gw_ifp h c_12
      refine hK _ _ _ _ _ _ _ ?_
      rw [fdX6_goOn_59]
      simp only [gt_nil, true_and, eq_self, gt_aload_n, gt_rfk, gw_nth, gt_get_r, gt_get_i, gt_get_z, gt_iload_n, gt_ink, gt_iaload, gt_v0, gt_v1, gt_v2, gt_v3, gt_v4, gt_v5, bkX6_goOn_59, ka0_0, ra0_0_0, ka0_1, ra0_1_0, ka0_2, ra0_2_0, ka0_3, ra0_3_0, ra0_3_1, ra0_3_2, ka0_4, la0_4, ka0_5, la0_5, ka0_6, la0_6]
      obtain ⟨c_13, h⟩ := gw_ife h
      refine ⟨c_13, ?_⟩
      obtain ⟨c_14, h⟩ := gw_ife h
      refine ⟨c_14, ?_⟩
      obtain ⟨μ_16, e_17, h⟩ := gw_bnd h
      refine ⟨rfl, 0, 0, hcc, hss, ok_X1_actAlone (gw_sub hS0 1 1 (by decide +kernel)) e_17 ?_⟩
      simp only [gt_nil, true_and, eq_self, Option.toList, List.cons_append, List.nil_append, Nat.add_zero, ka0_0, ra0_0_0, ka0_1, ra0_1_0, ka0_2, ra0_2_0, ka0_3, ra0_3_0, ra0_3_1, ra0_3_2, ka0_4, la0_4, ka0_5, la0_5, ka0_6, la0_6]
      refine hK _ _ _ _ _ _ _ ?_
      rw [fdX6_goOn_79]
      simp only [gt_nil, true_and, eq_self, gt_vret, bkX6_goOn_79, ka0_0, ra0_0_0, ka0_1, ra0_1_0, ka0_2, ra0_2_0, ka0_3, ra0_3_0, ra0_3_1, ra0_3_2, ka0_4, la0_4, ka0_5, la0_5, ka0_6, la0_6]
      obtain rfl := gw_inj1 h
      exact ⟨hcc, hss, hq⟩
    · replace h := gw_ifn h c_12
      obtain ⟨c_19, h⟩ := gw_ife h
      refine ⟨c_19, ?_⟩
      obtain ⟨c_20, h⟩ := gw_ife h
      refine ⟨c_20, ?_⟩
      obtain ⟨μ_22, e_23, h⟩ := gw_bnd h
      refine ⟨rfl, 0, 0, hcc, hss, ok_X6_touchFrom hS0 e_23 ?_⟩
      simp only [gt_nil, true_and, eq_self, gt_goto, Option.toList, List.cons_append, List.nil_append, Nat.add_zero, ka0_0, ra0_0_0, ka0_1, ra0_1_0, ka0_2, ra0_2_0, ka0_3, ra0_3_0, ra0_3_1, ra0_3_2, ka0_4, la0_4, ka0_5, la0_5, ka0_6, la0_6]
      refine hK _ _ _ _ _ _ _ ?_
      rw [fdX6_goOn_79]
      simp only [gt_nil, true_and, eq_self, gt_vret, bkX6_goOn_79, ka0_0, ra0_0_0, ka0_1, ra0_1_0, ka0_2, ra0_2_0, ka0_3, ra0_3_0, ra0_3_1, ra0_3_2, ka0_4, la0_4, ka0_5, la0_5, ka0_6, la0_6]
      obtain rfl := gw_inj1 h
      exact ⟨hcc, hss, hq⟩
  · replace h := gw_ifn h c_1
    obtain rfl := gw_inj1 h
    exact ⟨hcc, hss, hq⟩
def F_X7_add (n0 : Nat) (a0 : Nat) (v1 : Int32) (v2 : Int32) (v3 : Int32) (μ : gw_M) : Option (gw_M) := (if 0 ≤ (μ a0 3) ∧ (μ a0 3).toNatClampNeg < 24 then gw_let (gw_up μ (a0 + 1) (μ a0 3).toNatClampNeg v1) (fun (μ_2 : gw_M) => (if 0 ≤ (μ_2 a0 3) ∧ (μ_2 a0 3).toNatClampNeg < 24 then gw_let (gw_up μ_2 (a0 + 2) (μ_2 a0 3).toNatClampNeg v2) (fun (μ_4 : gw_M) => (if 0 ≤ (μ_4 a0 3) ∧ (μ_4 a0 3).toNatClampNeg < 24 then gw_let (gw_up μ_4 (a0 + 3) (μ_4 a0 3).toNatClampNeg v3) (fun (μ_6 : gw_M) => gw_let (gw_up μ_6 a0 3 ((μ_6 a0 3) + (1 : Int32))) (fun (μ_7 : gw_M) => some μ_7)) else none)) else none)) else none)
theorem ok_X7_add {l : Launch} {x : gw_C} {d : Nat} {S : gw_S} {Q : Option Value → gw_S → gw_M → Prop} {v1 v2 v3 : Int32} {a0 : Nat} {n0 : Nat} {μ : gw_M} {μ'} (hS0 : gw_sh S 7 a0) (h : F_X7_add n0 a0 v1 v2 v3 μ = some μ') (hq : Q none S μ') : gw_ok l x (d + 1) sgX7_add 0 0 [.ref a0, .int v1, .int v2, .int v3] S μ Q := by
  refine gw_ok_of stX7_add (lv0 := [.ref a0, .int v1, .int v2, .int v3]) (Nat.le_of_ble_eq_true rfl) rfl rfl ?_
  intro K hK
  have hcc : 0 ≤ 0 := Nat.zero_le _
  have hss : 0 ≤ 0 := Nat.zero_le _
  have ka0_0 : gw_kd S a0 = 7 := (hS0 0 _ rfl).1
  have ra0_0_0 : gw_rf S a0 0 = a0 + 1 := (hS0 0 _ rfl).2.2 (0, 1) (by decide)
  have ra0_0_1 : gw_rf S a0 1 = a0 + 2 := (hS0 0 _ rfl).2.2 (1, 2) (by decide)
  have ra0_0_2 : gw_rf S a0 2 = a0 + 3 := (hS0 0 _ rfl).2.2 (2, 3) (by decide)
  have ka0_1 : gw_kd S (a0 + 1) = 12 := (hS0 1 _ rfl).1
  have la0_1 : gw_ln S (a0 + 1) = 24 := (hS0 1 _ rfl).2.1
  have ka0_2 : gw_kd S (a0 + 2) = 12 := (hS0 2 _ rfl).1
  have la0_2 : gw_ln S (a0 + 2) = 24 := (hS0 2 _ rfl).2.1
  have ka0_3 : gw_kd S (a0 + 3) = 12 := (hS0 3 _ rfl).1
  have la0_3 : gw_ln S (a0 + 3) = 24 := (hS0 3 _ rfl).2.1
  unfold F_X7_add at h
  refine hK _ _ _ _ _ _ _ ?_
  rw [fdX7_add_0]
  simp only [gt_nil, true_and, eq_self, gt_aload_n, gt_rfk, gw_nth, gt_get_r, gt_get_i, gt_get_z, gt_iload_n, gt_ink, gt_iastore, gt_dup_i, gt_dup_r, gt_iconst, gt_iadd, gt_put_i, gt_putz, gt_vret, bkX7_add_0, ka0_0, ra0_0_0, ra0_0_1, ra0_0_2, ka0_1, la0_1, ka0_2, la0_2, ka0_3, la0_3]
  obtain ⟨c_1, h⟩ := gw_ife h
  refine ⟨c_1, ?_⟩
  obtain ⟨μ_2, hμ_2, h⟩ := gw_lt h
  try rw [← hμ_2]
  obtain ⟨c_3, h⟩ := gw_ife h
  refine ⟨c_3, ?_⟩
  obtain ⟨μ_4, hμ_4, h⟩ := gw_lt h
  try rw [← hμ_4]
  obtain ⟨c_5, h⟩ := gw_ife h
  refine ⟨c_5, ?_⟩
  obtain ⟨μ_6, hμ_6, h⟩ := gw_lt h
  try rw [← hμ_6]
  obtain ⟨μ_7, hμ_7, h⟩ := gw_lt h
  try rw [← hμ_7]
  obtain rfl := gw_inj1 h
  exact ⟨hcc, hss, hq⟩
def F_X8_elderThan_38 (rec4 : Int32 → Int32 → Int32 → gw_M → Option (Int32)) (n0 : Nat) (a0 : Nat) (v1 : Int32) (v2 : Int32) (v3 : Int32) (μ : gw_M) : Option (Int32) := gw_let (v3 + 1) (fun (w_1 : Int32) => rec4 v1 v2 w_1 μ)
def F_X8_elderThan_4 (n0 : Nat) (a0 : Nat) : Nat → Int32 → Int32 → Int32 → gw_M → Option (Int32)
  | 0, _, _, _, _ => none
  | n + 1, v1, v2, v3, μ => (if 16 ≤ v3 then some v2 else (if 0 ≤ v3 ∧ v3.toNatClampNeg < 16 then (if (μ (a0 + 1) v3.toNatClampNeg) = (-1) then F_X8_elderThan_38 (F_X8_elderThan_4 n0 a0 n) n0 a0 v1 v2 v3 μ else (if 0 ≤ v3 ∧ v3.toNatClampNeg < 16 then (if 0 ≤ v1 ∧ v1.toNatClampNeg < 16 then (if (μ (a0 + 3) v1.toNatClampNeg) ≤ (μ (a0 + 3) v3.toNatClampNeg) then F_X8_elderThan_38 (F_X8_elderThan_4 n0 a0 n) n0 a0 v1 v2 v3 μ else gw_let (v2 + 1) (fun (w_7 : Int32) => F_X8_elderThan_38 (F_X8_elderThan_4 n0 a0 n) n0 a0 v1 w_7 v3 μ)) else none) else none)) else none))
def F_X8_elderThan (n0 : Nat) (a0 : Nat) (v1 : Int32) (μ : gw_M) : Option (Int32) := F_X8_elderThan_4 n0 a0 n0 v1 0 0 μ
theorem B_X8_elderThan_38 {l : Launch} {x : gw_C} {d : Nat} {S : gw_S} {Q : Option Value → gw_S → gw_M → Prop} {K : Nat → gw_Kt} {mc ms cc ss : Nat} (hcc : cc ≤ mc) (hss : ss ≤ ms) (hK : gw_cl l x (d + 0) mc ms bsX8_elderThan Q K) {a0 : Nat} (hS0 : gw_sh S 8 a0) {rec4 : Int32 → Int32 → Int32 → gw_M → Option (Int32)} (hrec4 : ∀ {v1 v2 v3} {μ : gw_M} {r}, rec4 v1 v2 v3 μ = some r → Q (some (.int r)) S μ → K 4 [.ref a0, .int v1, .int v2, .int v3] [] S μ cc ss) {n0 : Nat} {v1 v2 v3} {μ : gw_M} {r} (h : F_X8_elderThan_38 rec4 n0 a0 v1 v2 v3 μ = some r) (hq : Q (some (.int r)) S μ) : K 38 [.ref a0, .int v1, .int v2, .int v3] [] S μ cc ss := by
  unfold F_X8_elderThan_38 at h
  refine hK _ _ _ _ _ _ _ ?_
  rw [fdX8_elderThan_38]
  simp only [gt_nil, true_and, eq_self, gt_iinc, gt_ink, gw_nth, gw_set, gt_goto, bkX8_elderThan_38]
  obtain ⟨w_1, hw_1, h⟩ := gw_lt h
  try rw [← hw_1]
  exact hrec4 h hq
theorem B_X8_elderThan_4 {l : Launch} {x : gw_C} {d : Nat} {S : gw_S} {Q : Option Value → gw_S → gw_M → Prop} {K : Nat → gw_Kt} {mc ms cc ss : Nat} (hcc : cc ≤ mc) (hss : ss ≤ ms) (hK : gw_cl l x (d + 0) mc ms bsX8_elderThan Q K) {a0 : Nat} (hS0 : gw_sh S 8 a0) {n0 : Nat} : ∀ {n : Nat} {v1 v2 v3} {μ : gw_M} {r}, F_X8_elderThan_4 n0 a0 n v1 v2 v3 μ = some r → Q (some (.int r)) S μ → K 4 [.ref a0, .int v1, .int v2, .int v3] [] S μ cc ss := by
  have ka0_0 : gw_kd S a0 = 8 := (hS0 0 _ rfl).1
  have ra0_0_0 : gw_rf S a0 0 = a0 + 1 := (hS0 0 _ rfl).2.2 (0, 1) (by decide)
  have ra0_0_2 : gw_rf S a0 2 = a0 + 3 := (hS0 0 _ rfl).2.2 (2, 3) (by decide)
  have ka0_1 : gw_kd S (a0 + 1) = 12 := (hS0 1 _ rfl).1
  have la0_1 : gw_ln S (a0 + 1) = 16 := (hS0 1 _ rfl).2.1
  have ka0_3 : gw_kd S (a0 + 3) = 12 := (hS0 3 _ rfl).1
  have la0_3 : gw_ln S (a0 + 3) = 16 := (hS0 3 _ rfl).2.1
  intro n
  induction n with
  | zero => intro v1 v2 v3 μ r h hq; simp [F_X8_elderThan_4] at h
  | succ n ih =>
    intro v1 v2 v3 μ r h hq
    simp only [F_X8_elderThan_4] at h
    refine hK _ _ _ _ _ _ _ ?_
    rw [fdX8_elderThan_4]
    simp only [gt_nil, true_and, eq_self, gt_iload_n, gt_ink, gw_nth, gt_bipush, gt_icmp, gt_aload_n, gt_rfk, gt_get_r, gt_get_i, gt_get_z, gt_iaload, gt_iconst, gt_iinc, gw_set, bkX8_elderThan_4, ka0_0, ra0_0_0, ra0_0_2, ka0_1, la0_1, ka0_3, la0_3]
    refine ⟨fun c_1 => ?_, fun c_1 => ?_⟩
    · replace h := gw_ifp2 (gw_c2_ge _ _) h c_1
      refine hK _ _ _ _ _ _ _ ?_
      rw [fdX8_elderThan_44]
      simp only [gt_nil, true_and, eq_self, gt_iload_n, gt_ink, gw_nth, gt_iret, gt_retz, bkX8_elderThan_44, ka0_0, ra0_0_0, ra0_0_2, ka0_1, la0_1, ka0_3, la0_3]
      obtain rfl := gw_inj1 h
      exact ⟨hcc, hss, hq⟩
    · replace h := gw_ifn2 (gw_c2_ge _ _) h c_1
      obtain ⟨c_2, h⟩ := gw_ife h
      refine ⟨c_2, ?_⟩
      refine ⟨fun c_3 => ?_, fun c_3 => ?_⟩
      · replace h := gw_ifp2 (gw_c2_eq _ _) h c_3
        exact B_X8_elderThan_38 hcc hss hK hS0 ih h hq
      · replace h := gw_ifn2 (gw_c2_eq _ _) h c_3
        obtain ⟨c_4, h⟩ := gw_ife h
        refine ⟨c_4, ?_⟩
        obtain ⟨c_5, h⟩ := gw_ife h
        refine ⟨c_5, ?_⟩
        refine ⟨fun c_6 => ?_, fun c_6 => ?_⟩
        · replace h := gw_ifp2 (gw_c2_ge _ _) h c_6
          exact B_X8_elderThan_38 hcc hss hK hS0 ih h hq
        · replace h := gw_ifn2 (gw_c2_ge _ _) h c_6
          obtain ⟨w_7, hw_7, h⟩ := gw_lt h
          try rw [← hw_7]
          exact B_X8_elderThan_38 hcc hss hK hS0 ih h hq
theorem ok_X8_elderThan {l : Launch} {x : gw_C} {d : Nat} {S : gw_S} {Q : Option Value → gw_S → gw_M → Prop} {v1 : Int32} {a0 : Nat} {n0 : Nat} {μ : gw_M} {r} (hS0 : gw_sh S 8 a0) (h : F_X8_elderThan n0 a0 v1 μ = some r) (hq : Q (some (.int r)) S μ) : gw_ok l x (d + 1) sgX8_elderThan 0 0 [.ref a0, .int v1] S μ Q := by
  refine gw_ok_of stX8_elderThan (lv0 := [.ref a0, .int v1, .retAddr 0, .retAddr 0]) (Nat.le_of_ble_eq_true rfl) rfl rfl ?_
  intro K hK
  have hcc : 0 ≤ 0 := Nat.zero_le _
  have hss : 0 ≤ 0 := Nat.zero_le _
  unfold F_X8_elderThan at h
  refine hK _ _ _ _ _ _ _ ?_
  rw [fdX8_elderThan_0]
  simp only [gt_nil, true_and, eq_self, gt_iconst, gt_istore_n, gw_set, bkX8_elderThan_0]
  exact B_X8_elderThan_4 hcc hss hK hS0 h hq
def F_X8_byAge_29 (rec2 : Int32 → Int32 → gw_M → Option (Int32)) (n0 : Nat) (a0 : Nat) (v1 : Int32) (v2 : Int32) (μ : gw_M) : Option (Int32) := gw_let (v2 + 1) (fun (w_1 : Int32) => rec2 v1 w_1 μ)
def F_X8_byAge_2 (n0 : Nat) (a0 : Nat) : Nat → Int32 → Int32 → gw_M → Option (Int32)
  | 0, _, _, _ => none
  | n + 1, v1, v2, μ => (if 16 ≤ v2 then some (-1) else (if 0 ≤ v2 ∧ v2.toNatClampNeg < 16 then (if (μ (a0 + 1) v2.toNatClampNeg) = (-1) then F_X8_byAge_29 (F_X8_byAge_2 n0 a0 n) n0 a0 v1 v2 μ else (F_X8_elderThan n0 a0 v2 μ).bind (fun (r_4 : Int32) => (if ¬ r_4 = v1 then F_X8_byAge_29 (F_X8_byAge_2 n0 a0 n) n0 a0 v1 v2 μ else some v2))) else none))
def F_X8_byAge (n0 : Nat) (a0 : Nat) (v1 : Int32) (μ : gw_M) : Option (Int32) := F_X8_byAge_2 n0 a0 n0 v1 0 μ
theorem B_X8_byAge_29 {l : Launch} {x : gw_C} {d : Nat} {S : gw_S} {Q : Option Value → gw_S → gw_M → Prop} {K : Nat → gw_Kt} {mc ms cc ss : Nat} (hcc : cc ≤ mc) (hss : ss ≤ ms) (hK : gw_cl l x (d + 1) mc ms bsX8_byAge Q K) {a0 : Nat} (hS0 : gw_sh S 8 a0) {rec2 : Int32 → Int32 → gw_M → Option (Int32)} (hrec2 : ∀ {v1 v2} {μ : gw_M} {r}, rec2 v1 v2 μ = some r → Q (some (.int r)) S μ → K 2 [.ref a0, .int v1, .int v2] [] S μ cc ss) {n0 : Nat} {v1 v2} {μ : gw_M} {r} (h : F_X8_byAge_29 rec2 n0 a0 v1 v2 μ = some r) (hq : Q (some (.int r)) S μ) : K 29 [.ref a0, .int v1, .int v2] [] S μ cc ss := by
  unfold F_X8_byAge_29 at h
  refine hK _ _ _ _ _ _ _ ?_
  rw [fdX8_byAge_29]
  simp only [gt_nil, true_and, eq_self, gt_iinc, gt_ink, gw_nth, gw_set, gt_goto, bkX8_byAge_29]
  obtain ⟨w_1, hw_1, h⟩ := gw_lt h
  try rw [← hw_1]
  exact hrec2 h hq
theorem B_X8_byAge_2 {l : Launch} {x : gw_C} {d : Nat} {S : gw_S} {Q : Option Value → gw_S → gw_M → Prop} {K : Nat → gw_Kt} {mc ms cc ss : Nat} (hcc : cc ≤ mc) (hss : ss ≤ ms) (hK : gw_cl l x (d + 1) mc ms bsX8_byAge Q K) {a0 : Nat} (hS0 : gw_sh S 8 a0) {n0 : Nat} : ∀ {n : Nat} {v1 v2} {μ : gw_M} {r}, F_X8_byAge_2 n0 a0 n v1 v2 μ = some r → Q (some (.int r)) S μ → K 2 [.ref a0, .int v1, .int v2] [] S μ cc ss := by
  have ka0_0 : gw_kd S a0 = 8 := (hS0 0 _ rfl).1
  have ra0_0_0 : gw_rf S a0 0 = a0 + 1 := (hS0 0 _ rfl).2.2 (0, 1) (by decide)
  have ka0_1 : gw_kd S (a0 + 1) = 12 := (hS0 1 _ rfl).1
  have la0_1 : gw_ln S (a0 + 1) = 16 := (hS0 1 _ rfl).2.1
  intro n
  induction n with
  | zero => intro v1 v2 μ r h hq; simp [F_X8_byAge_2] at h
  | succ n ih =>
    intro v1 v2 μ r h hq
    simp only [F_X8_byAge_2] at h
    refine hK _ _ _ _ _ _ _ ?_
    rw [fdX8_byAge_2]
    simp only [gt_nil, true_and, eq_self, gt_iload_n, gt_ink, gw_nth, gt_bipush, gt_icmp, gt_aload_n, gt_rfk, gt_get_r, gt_get_i, gt_get_z, gt_iaload, gt_iconst, gt_v0, gt_v1, gt_v2, gt_v3, gt_v4, gt_v5, gt_iret, gt_retz, bkX8_byAge_2, ka0_0, ra0_0_0, ka0_1, la0_1]
    refine ⟨fun c_1 => ?_, fun c_1 => ?_⟩
    · replace h := gw_ifp2 (gw_c2_ge _ _) h c_1
      refine hK _ _ _ _ _ _ _ ?_
      rw [fdX8_byAge_35]
      simp only [gt_nil, true_and, eq_self, gt_iconst, gt_iret, gt_retz, bkX8_byAge_35, ka0_0, ra0_0_0, ka0_1, la0_1]
      obtain rfl := gw_inj1 h
      exact ⟨hcc, hss, hq⟩
    · replace h := gw_ifn2 (gw_c2_ge _ _) h c_1
      obtain ⟨c_2, h⟩ := gw_ife h
      refine ⟨c_2, ?_⟩
      refine ⟨fun c_3 => ?_, fun c_3 => ?_⟩
      · replace h := gw_ifp2 (gw_c2_eq _ _) h c_3
        exact B_X8_byAge_29 hcc hss hK hS0 ih h hq
      · replace h := gw_ifn2 (gw_c2_eq _ _) h c_3
        obtain ⟨r_4, e_6, h⟩ := gw_bnd h
        refine ⟨rfl, 0, 0, hcc, hss, ok_X8_elderThan hS0 e_6 ?_⟩
        simp only [gt_nil, true_and, eq_self, gt_iload_n, gt_ink, gw_nth, gt_icmp, gt_iret, gt_retz, Option.toList, List.cons_append, List.nil_append, Nat.add_zero, ka0_0, ra0_0_0, ka0_1, la0_1]
        refine ⟨fun c_8 => ?_, fun c_8 => ?_⟩
        · replace h := gw_ifp2 (gw_c2_ne _ _) h c_8
          exact B_X8_byAge_29 hcc hss hK hS0 ih h hq
        · replace h := gw_ifn2 (gw_c2_ne _ _) h c_8
          obtain rfl := gw_inj1 h
          exact ⟨hcc, hss, hq⟩
theorem ok_X8_byAge {l : Launch} {x : gw_C} {d : Nat} {S : gw_S} {Q : Option Value → gw_S → gw_M → Prop} {v1 : Int32} {a0 : Nat} {n0 : Nat} {μ : gw_M} {r} (hS0 : gw_sh S 8 a0) (h : F_X8_byAge n0 a0 v1 μ = some r) (hq : Q (some (.int r)) S μ) : gw_ok l x (d + 2) sgX8_byAge 0 0 [.ref a0, .int v1] S μ Q := by
  refine gw_ok_of stX8_byAge (lv0 := [.ref a0, .int v1, .retAddr 0]) (Nat.le_of_ble_eq_true rfl) rfl rfl ?_
  intro K hK
  have hcc : 0 ≤ 0 := Nat.zero_le _
  have hss : 0 ≤ 0 := Nat.zero_le _
  unfold F_X8_byAge at h
  refine hK _ _ _ _ _ _ _ ?_
  rw [fdX8_byAge_0]
  simp only [gt_nil, true_and, eq_self, gt_iconst, gt_istore_n, gw_set, bkX8_byAge_0]
  exact B_X8_byAge_2 hcc hss hK hS0 h hq
def F_X9_add (n0 : Nat) (a0 : Nat) (v1 : Int32) (v2 : Int32) (v3 : Int32) (μ : gw_M) : Option (gw_M) := (if 0 ≤ (μ a0 3) ∧ (μ a0 3).toNatClampNeg < 12 then gw_let (gw_up μ (a0 + 1) (μ a0 3).toNatClampNeg v1) (fun (μ_2 : gw_M) => (if 0 ≤ (μ_2 a0 3) ∧ (μ_2 a0 3).toNatClampNeg < 12 then gw_let (gw_up μ_2 (a0 + 2) (μ_2 a0 3).toNatClampNeg v2) (fun (μ_4 : gw_M) => (if 0 ≤ (μ_4 a0 3) ∧ (μ_4 a0 3).toNatClampNeg < 12 then gw_let (gw_up μ_4 (a0 + 3) (μ_4 a0 3).toNatClampNeg v3) (fun (μ_6 : gw_M) => gw_let (gw_up μ_6 a0 3 ((μ_6 a0 3) + (1 : Int32))) (fun (μ_7 : gw_M) => some μ_7)) else none)) else none)) else none)
theorem ok_X9_add {l : Launch} {x : gw_C} {d : Nat} {S : gw_S} {Q : Option Value → gw_S → gw_M → Prop} {v1 v2 v3 : Int32} {a0 : Nat} {n0 : Nat} {μ : gw_M} {μ'} (hS0 : gw_sh S 9 a0) (h : F_X9_add n0 a0 v1 v2 v3 μ = some μ') (hq : Q none S μ') : gw_ok l x (d + 1) sgX9_add 0 0 [.ref a0, .int v1, .int v2, .int v3] S μ Q := by
  refine gw_ok_of stX9_add (lv0 := [.ref a0, .int v1, .int v2, .int v3]) (Nat.le_of_ble_eq_true rfl) rfl rfl ?_
  intro K hK
  have hcc : 0 ≤ 0 := Nat.zero_le _
  have hss : 0 ≤ 0 := Nat.zero_le _
  have ka0_0 : gw_kd S a0 = 9 := (hS0 0 _ rfl).1
  have ra0_0_0 : gw_rf S a0 0 = a0 + 1 := (hS0 0 _ rfl).2.2 (0, 1) (by decide)
  have ra0_0_1 : gw_rf S a0 1 = a0 + 2 := (hS0 0 _ rfl).2.2 (1, 2) (by decide)
  have ra0_0_2 : gw_rf S a0 2 = a0 + 3 := (hS0 0 _ rfl).2.2 (2, 3) (by decide)
  have ka0_1 : gw_kd S (a0 + 1) = 12 := (hS0 1 _ rfl).1
  have la0_1 : gw_ln S (a0 + 1) = 12 := (hS0 1 _ rfl).2.1
  have ka0_2 : gw_kd S (a0 + 2) = 12 := (hS0 2 _ rfl).1
  have la0_2 : gw_ln S (a0 + 2) = 12 := (hS0 2 _ rfl).2.1
  have ka0_3 : gw_kd S (a0 + 3) = 12 := (hS0 3 _ rfl).1
  have la0_3 : gw_ln S (a0 + 3) = 12 := (hS0 3 _ rfl).2.1
  unfold F_X9_add at h
  refine hK _ _ _ _ _ _ _ ?_
  rw [fdX9_add_0]
  simp only [gt_nil, true_and, eq_self, gt_aload_n, gt_rfk, gw_nth, gt_get_r, gt_get_i, gt_get_z, gt_iload_n, gt_ink, gt_iastore, gt_dup_i, gt_dup_r, gt_iconst, gt_iadd, gt_put_i, gt_putz, gt_vret, bkX9_add_0, ka0_0, ra0_0_0, ra0_0_1, ra0_0_2, ka0_1, la0_1, ka0_2, la0_2, ka0_3, la0_3]
  obtain ⟨c_1, h⟩ := gw_ife h
  refine ⟨c_1, ?_⟩
  obtain ⟨μ_2, hμ_2, h⟩ := gw_lt h
  try rw [← hμ_2]
  obtain ⟨c_3, h⟩ := gw_ife h
  refine ⟨c_3, ?_⟩
  obtain ⟨μ_4, hμ_4, h⟩ := gw_lt h
  try rw [← hμ_4]
  obtain ⟨c_5, h⟩ := gw_ife h
  refine ⟨c_5, ?_⟩
  obtain ⟨μ_6, hμ_6, h⟩ := gw_lt h
  try rw [← hμ_6]
  obtain ⟨μ_7, hμ_7, h⟩ := gw_lt h
  try rw [← hμ_7]
  obtain rfl := gw_inj1 h
  exact ⟨hcc, hss, hq⟩
def F_X10_isPage (n0 : Nat) (v0 : Int32) (μ : gw_M) : Option (Int32) := (F_X10_within n0 v0 0 15 μ).bind (fun (r_1 : Int32) => some r_1)
theorem ok_X10_isPage {l : Launch} {x : gw_C} {d : Nat} {S : gw_S} {Q : Option Value → gw_S → gw_M → Prop} {v0 : Int32} {n0 : Nat} {μ : gw_M} {r} (h : F_X10_isPage n0 v0 μ = some r) (hq : ((r = 0 ∨ r = 1) → Q (some (.int r)) S μ)) : gw_ok l x (d + 2) sgX10_isPage 0 0 [.int v0] S μ Q := by
  refine gw_ok_of stX10_isPage (lv0 := [.int v0]) (Nat.le_of_ble_eq_true rfl) rfl rfl ?_
  intro K hK
  have hcc : 0 ≤ 0 := Nat.zero_le _
  have hss : 0 ≤ 0 := Nat.zero_le _
  unfold F_X10_isPage at h
  refine hK _ _ _ _ _ _ _ ?_
  rw [fdX10_isPage_0]
  simp only [gt_nil, true_and, eq_self, gt_iload_n, gt_ink, gw_nth, gt_iconst, gt_bipush, gt_s1_0, gt_s2_0, gt_s3_0, gt_s4_0, gt_s1_1, gt_s2_1, gt_s3_1, gt_s4_1, gt_acpy, gt_iret, gt_retz, bkX10_isPage_0]
  obtain ⟨r_1, e_3, h⟩ := gw_bnd h
  refine ⟨rfl, 0, 0, hcc, hss, ok_X10_within e_3 ?_⟩
  intro hbr_1
  simp only [gt_nil, true_and, eq_self, gt_iret, gt_retz, Option.toList, List.cons_append, List.nil_append, Nat.add_zero]
  obtain rfl := gw_inj1 h
  exact ⟨hbr_1, hcc, hss, hq hbr_1⟩
def F_X10_entry (n0 : Nat) (a0 : Nat) (v1 : Int32) (v2 : Int32) (v3 : Int32) (v4 : Int32) (μ pu : gw_M) : Option (Int32 × gw_M × Bool) := (if ¬ v1 = 2 then (F_X3_mayTell n0 (a0 + 1) v1 μ).bind (fun (r_2 : Int32) => (if r_2 = 0 then some (0, μ, false) else (F_X10_isPage n0 v2 μ).bind (fun (r_7 : Int32) => (if r_7 = 0 then some (0, μ, false) else (F_X10_within n0 v3 0 ((16 : Int32) - (1 : Int32)) μ).bind (fun (r_12 : Int32) => (if r_12 = 0 then some (0, μ, false) else (F_X10_within n0 v4 1 7 μ).bind (fun (r_17 : Int32) => (if ¬ r_17 = 0 then (((F_X3_tellEntry n0 (a0 + 1) v1 v2 v3 v4 pu).bind (fun (μ_25 : gw_M) => (F_X3_dealOut n0 (a0 + 1) μ_25).bind (fun (μ_29 : gw_M) => some (1, μ_29)))).map (fun (z : Int32 × gw_M) => (z.1, z.2, true))) else some (0, μ, false))))))))) else (F_X3_mayTell n0 (a0 + 1) v1 μ).bind (fun (r_32 : Int32) => (if r_32 = 0 then some (0, μ, false) else (F_X10_isPage n0 v2 μ).bind (fun (r_37 : Int32) => (if r_37 = 0 then some (0, μ, false) else (F_X10_within n0 v3 0 ((10 : Int32) - (1 : Int32)) μ).bind (fun (r_42 : Int32) => (if r_42 = 0 then some (0, μ, false) else (F_X10_within n0 v4 1 7 μ).bind (fun (r_47 : Int32) => (if ¬ r_47 = 0 then (((F_X3_tellEntry n0 (a0 + 1) v1 v2 v3 v4 pu).bind (fun (μ_55 : gw_M) => (F_X3_dealOut n0 (a0 + 1) μ_55).bind (fun (μ_59 : gw_M) => some (1, μ_59)))).map (fun (z : Int32 × gw_M) => (z.1, z.2, true))) else some (0, μ, false))))))))))
theorem ok_X10_entry {l : Launch} {x : gw_C} {d mc ms : Nat} {S Sp : gw_S} {Q : Option Value → gw_S → gw_M → Prop} {v1 v2 v3 v4 : Int32} {a0 n0 : Nat} {μ pu : gw_M} {r μ'} {b : Bool} (hmo : ∀ {c e : Nat}, gw_sh S c e → gw_sh Sp c e) (hpu : ∀ {Q1 : Option Value → gw_S → gw_M → Prop}, Q1 none Sp pu → gw_ok l x (d + 8) sgX5_push mc ms [.ref (a0 + 83), .ref (a0 + 1)] S μ Q1) (hS0 : gw_sh S 10 a0) (h : F_X10_entry n0 a0 v1 v2 v3 v4 μ pu = some (r, μ', b)) (hq : ((r = 0 ∨ r = 1) → Q (some (.int r)) (cond b Sp S) μ')) : gw_ok l x (d + 9) sgX10_entry mc ms [.ref a0, .int v1, .int v2, .int v3, .int v4] S μ Q := by
  refine gw_ok_of stX10_entry (lv0 := [.ref a0, .int v1, .int v2, .int v3, .int v4, .retAddr 0]) (Nat.le_of_ble_eq_true rfl) rfl rfl ?_
  intro K hK
  have hcc : 0 ≤ mc := Nat.zero_le _
  have hss : 0 ≤ ms := Nat.zero_le _
  have ka0_0 : gw_kd S a0 = 10 := (hS0 0 _ rfl).1
  have ra0_0_0 : gw_rf S a0 0 = a0 + 1 := (hS0 0 _ rfl).2.2 (0, 1) (by decide)
  have ra0_0_1 : gw_rf S a0 1 = a0 + 83 := (hS0 0 _ rfl).2.2 (1, 83) (by decide)
  have ka0_1 : gw_kd S (a0 + 1) = 3 := (hS0 1 _ rfl).1
  have ka0_83 : gw_kd S (a0 + 83) = 5 := (hS0 83 _ rfl).1
  unfold F_X10_entry at h
  refine hK _ _ _ _ _ _ _ ?_
  rw [fdX10_entry_0]
  simp only [gt_nil, true_and, eq_self, gt_iload_n, gt_ink, gw_nth, gt_iconst, gt_icmp, gt_bipush, gt_goto, bkX10_entry_0, ka0_0, ra0_0_0, ra0_0_1, ka0_1, ka0_83]
  refine ⟨fun c_1 => ?_, fun c_1 => ?_⟩
  · replace h := gw_ifp2 (gw_c2_ne _ _) h c_1
    refine hK _ _ _ _ _ _ _ ?_
    rw [fdX10_entry_10]
    simp only [gt_nil, true_and, eq_self, gt_bipush, bkX10_entry_10, ka0_0, ra0_0_0, ra0_0_1, ka0_1, ka0_83]
    refine hK _ _ _ _ _ _ _ ?_
    rw [fdX10_entry_12]
    simp only [gt_nil, true_and, eq_self, gt_istore, gw_set, gt_aload_n, gt_rfk, gw_nth, gt_get_r, gt_get_i, gt_get_z, gt_iload_n, gt_ink, gt_v0, gt_v1, gt_v2, gt_v3, gt_v4, gt_v5, gt_if, gt_s1_0, gt_s2_0, gt_s3_0, gt_s4_0, gt_s1_1, gt_s2_1, gt_s3_1, gt_s4_1, gt_acpy, gt_iconst, gt_iload, gt_isub, gt_bipush, bkX10_entry_12, ka0_0, ra0_0_0, ra0_0_1, ka0_1, ka0_83]
    obtain ⟨r_2, e_4, h⟩ := gw_bnd h
    refine ⟨rfl, 0, 0, hcc, hss, ok_X3_mayTell (gw_sub hS0 3 1 (by decide +kernel)) e_4 ?_⟩
    intro hbr_2
    simp only [gt_nil, true_and, eq_self, gt_if, gt_iload_n, gt_ink, gw_nth, gt_s1_0, gt_s2_0, gt_s3_0, gt_s4_0, gt_s1_1, gt_s2_1, gt_s3_1, gt_s4_1, gt_acpy, gt_iconst, gt_iload, gt_isub, gt_bipush, Option.toList, List.cons_append, List.nil_append, Nat.add_zero, ka0_0, ra0_0_0, ra0_0_1, ka0_1, ka0_83]
    refine ⟨fun c_6 => ?_, fun c_6 => ?_⟩
    · replace h := gw_ifp h c_6
      refine hK _ _ _ _ _ _ _ ?_
      rw [fdX10_entry_55]
      simp only [gt_nil, true_and, eq_self, gt_iconst, gt_iret, gt_retz, bkX10_entry_55, ka0_0, ra0_0_0, ra0_0_1, ka0_1, ka0_83]
      obtain ⟨rfl, rfl, rfl⟩ := gw_inj3 h
      exact ⟨(Or.inl rfl), hcc, hss, hq (Or.inl rfl)⟩
    · replace h := gw_ifn h c_6
      obtain ⟨r_7, e_9, h⟩ := gw_bnd h
      refine ⟨rfl, 0, 0, hcc, hss, ok_X10_isPage e_9 ?_⟩
      intro hbr_7
      simp only [gt_nil, true_and, eq_self, gt_if, gt_iload_n, gt_ink, gw_nth, gt_iconst, gt_iload, gt_isub, gt_s1_0, gt_s2_0, gt_s3_0, gt_s4_0, gt_s1_1, gt_s2_1, gt_s3_1, gt_s4_1, gt_acpy, gt_bipush, Option.toList, List.cons_append, List.nil_append, Nat.add_zero, ka0_0, ra0_0_0, ra0_0_1, ka0_1, ka0_83]
      refine ⟨fun c_11 => ?_, fun c_11 => ?_⟩
      · replace h := gw_ifp h c_11
        refine hK _ _ _ _ _ _ _ ?_
        rw [fdX10_entry_55]
        simp only [gt_nil, true_and, eq_self, gt_iconst, gt_iret, gt_retz, bkX10_entry_55, ka0_0, ra0_0_0, ra0_0_1, ka0_1, ka0_83]
        obtain ⟨rfl, rfl, rfl⟩ := gw_inj3 h
        exact ⟨(Or.inl rfl), hcc, hss, hq (Or.inl rfl)⟩
      · replace h := gw_ifn h c_11
        obtain ⟨r_12, e_14, h⟩ := gw_bnd h
        refine ⟨rfl, 0, 0, hcc, hss, ok_X10_within e_14 ?_⟩
        intro hbr_12
        simp only [gt_nil, true_and, eq_self, gt_if, gt_iload, gt_ink, gw_nth, gt_iconst, gt_bipush, gt_s1_0, gt_s2_0, gt_s3_0, gt_s4_0, gt_s1_1, gt_s2_1, gt_s3_1, gt_s4_1, gt_acpy, Option.toList, List.cons_append, List.nil_append, Nat.add_zero, ka0_0, ra0_0_0, ra0_0_1, ka0_1, ka0_83]
        refine ⟨fun c_16 => ?_, fun c_16 => ?_⟩
        · replace h := gw_ifp h c_16
          refine hK _ _ _ _ _ _ _ ?_
          rw [fdX10_entry_55]
          simp only [gt_nil, true_and, eq_self, gt_iconst, gt_iret, gt_retz, bkX10_entry_55, ka0_0, ra0_0_0, ra0_0_1, ka0_1, ka0_83]
          obtain ⟨rfl, rfl, rfl⟩ := gw_inj3 h
          exact ⟨(Or.inl rfl), hcc, hss, hq (Or.inl rfl)⟩
        · replace h := gw_ifn h c_16
          obtain ⟨r_17, e_19, h⟩ := gw_bnd h
          refine ⟨rfl, 0, 0, hcc, hss, ok_X10_within e_19 ?_⟩
          intro hbr_17
          simp only [gt_nil, true_and, eq_self, gt_if, Option.toList, List.cons_append, List.nil_append, Nat.add_zero, ka0_0, ra0_0_0, ra0_0_1, ka0_1, ka0_83]
          refine ⟨fun c_21 => ?_, fun c_21 => ?_⟩
          · replace h := gw_ifp h c_21
            refine hK _ _ _ _ _ _ _ ?_
            rw [fdX10_entry_57]
            simp only [gt_nil, true_and, eq_self, gt_aload_n, gt_rfk, gw_nth, gt_get_r, gt_get_i, gt_get_z, gt_v0, gt_v1, gt_v2, gt_v3, gt_v4, gt_v5, gt_iload_n, gt_ink, gt_iload, gt_iconst, gt_iret, gt_retz, bkX10_entry_57, ka0_0, ra0_0_0, ra0_0_1, ka0_1, ka0_83]
            obtain ⟨⟨zr_22, zm_23⟩, h2, hz⟩ := gw_mp h
            clear h
            obtain ⟨rfl, rfl, rfl⟩ := gw_tup hz
            have h := h2
            replace hq : ((zr_22 = 0 ∨ zr_22 = 1) → Q (some (.int zr_22)) Sp zm_23) := hq
            refine ⟨rfl, mc, ms, Nat.le_of_eq (Nat.zero_add mc), Nat.le_of_eq (Nat.zero_add ms), hpu ?_⟩
            replace hcc : 0 + mc ≤ mc := Nat.le_of_eq (Nat.zero_add mc)
            replace hss : 0 + ms ≤ ms := Nat.le_of_eq (Nat.zero_add ms)
            have kpa0_0 : gw_kd Sp a0 = 10 := ((hmo hS0) 0 _ rfl).1
            have rpa0_0_0 : gw_rf Sp a0 0 = a0 + 1 := ((hmo hS0) 0 _ rfl).2.2 (0, 1) (by decide)
            have kpa0_1 : gw_kd Sp (a0 + 1) = 3 := ((hmo hS0) 1 _ rfl).1
            simp only [gt_nil, true_and, eq_self, gt_aload_n, gt_rfk, gw_nth, gt_get_r, gt_get_i, gt_get_z, gt_iload_n, gt_ink, gt_iload, gt_v0, gt_v1, gt_v2, gt_v3, gt_v4, gt_v5, gt_iconst, gt_iret, gt_retz, Option.toList, List.cons_append, List.nil_append, Nat.add_zero, kpa0_0, rpa0_0_0, kpa0_1]
            obtain ⟨μ_25, e_26, h⟩ := gw_bnd h
            refine ⟨rfl, 0, 0, hcc, hss, ok_X3_tellEntry (gw_sub (hmo hS0) 3 1 (by decide +kernel)) e_26 ?_⟩
            simp only [gt_nil, true_and, eq_self, gt_aload_n, gt_rfk, gw_nth, gt_get_r, gt_get_i, gt_get_z, gt_v0, gt_v1, gt_v2, gt_v3, gt_v4, gt_v5, gt_iconst, gt_iret, gt_retz, Option.toList, List.cons_append, List.nil_append, Nat.add_zero, kpa0_0, rpa0_0_0, kpa0_1]
            obtain ⟨μ_29, e_30, h⟩ := gw_bnd h
            refine ⟨rfl, 0, 0, hcc, hss, ok_X3_dealOut (gw_sub (hmo hS0) 3 1 (by decide +kernel)) e_30 ?_⟩
            simp only [gt_nil, true_and, eq_self, gt_iconst, gt_iret, gt_retz, Option.toList, List.cons_append, List.nil_append, Nat.add_zero, kpa0_0, rpa0_0_0, kpa0_1]
            obtain ⟨rfl, rfl⟩ := gw_inj2 h
            exact ⟨(Or.inr rfl), hcc, hss, hq (Or.inr rfl)⟩
          · replace h := gw_ifn h c_21
            refine hK _ _ _ _ _ _ _ ?_
            rw [fdX10_entry_55]
            simp only [gt_nil, true_and, eq_self, gt_iconst, gt_iret, gt_retz, bkX10_entry_55, ka0_0, ra0_0_0, ra0_0_1, ka0_1, ka0_83]
            obtain ⟨rfl, rfl, rfl⟩ := gw_inj3 h
            exact ⟨(Or.inl rfl), hcc, hss, hq (Or.inl rfl)⟩
  · replace h := gw_ifn2 (gw_c2_ne _ _) h c_1
    refine hK _ _ _ _ _ _ _ ?_
    rw [fdX10_entry_12]
    simp only [gt_nil, true_and, eq_self, gt_istore, gw_set, gt_aload_n, gt_rfk, gw_nth, gt_get_r, gt_get_i, gt_get_z, gt_iload_n, gt_ink, gt_v0, gt_v1, gt_v2, gt_v3, gt_v4, gt_v5, gt_if, gt_s1_0, gt_s2_0, gt_s3_0, gt_s4_0, gt_s1_1, gt_s2_1, gt_s3_1, gt_s4_1, gt_acpy, gt_iconst, gt_iload, gt_isub, gt_bipush, bkX10_entry_12, ka0_0, ra0_0_0, ra0_0_1, ka0_1, ka0_83]
    obtain ⟨r_32, e_34, h⟩ := gw_bnd h
    refine ⟨rfl, 0, 0, hcc, hss, ok_X3_mayTell (gw_sub hS0 3 1 (by decide +kernel)) e_34 ?_⟩
    intro hbr_32
    simp only [gt_nil, true_and, eq_self, gt_if, gt_iload_n, gt_ink, gw_nth, gt_s1_0, gt_s2_0, gt_s3_0, gt_s4_0, gt_s1_1, gt_s2_1, gt_s3_1, gt_s4_1, gt_acpy, gt_iconst, gt_iload, gt_isub, gt_bipush, Option.toList, List.cons_append, List.nil_append, Nat.add_zero, ka0_0, ra0_0_0, ra0_0_1, ka0_1, ka0_83]
    refine ⟨fun c_36 => ?_, fun c_36 => ?_⟩
    · replace h := gw_ifp h c_36
      refine hK _ _ _ _ _ _ _ ?_
      rw [fdX10_entry_55]
      simp only [gt_nil, true_and, eq_self, gt_iconst, gt_iret, gt_retz, bkX10_entry_55, ka0_0, ra0_0_0, ra0_0_1, ka0_1, ka0_83]
      obtain ⟨rfl, rfl, rfl⟩ := gw_inj3 h
      exact ⟨(Or.inl rfl), hcc, hss, hq (Or.inl rfl)⟩
    · replace h := gw_ifn h c_36
      obtain ⟨r_37, e_39, h⟩ := gw_bnd h
      refine ⟨rfl, 0, 0, hcc, hss, ok_X10_isPage e_39 ?_⟩
      intro hbr_37
      simp only [gt_nil, true_and, eq_self, gt_if, gt_iload_n, gt_ink, gw_nth, gt_iconst, gt_iload, gt_isub, gt_s1_0, gt_s2_0, gt_s3_0, gt_s4_0, gt_s1_1, gt_s2_1, gt_s3_1, gt_s4_1, gt_acpy, gt_bipush, Option.toList, List.cons_append, List.nil_append, Nat.add_zero, ka0_0, ra0_0_0, ra0_0_1, ka0_1, ka0_83]
      refine ⟨fun c_41 => ?_, fun c_41 => ?_⟩
      · replace h := gw_ifp h c_41
        refine hK _ _ _ _ _ _ _ ?_
        rw [fdX10_entry_55]
        simp only [gt_nil, true_and, eq_self, gt_iconst, gt_iret, gt_retz, bkX10_entry_55, ka0_0, ra0_0_0, ra0_0_1, ka0_1, ka0_83]
        obtain ⟨rfl, rfl, rfl⟩ := gw_inj3 h
        exact ⟨(Or.inl rfl), hcc, hss, hq (Or.inl rfl)⟩
      · replace h := gw_ifn h c_41
        obtain ⟨r_42, e_44, h⟩ := gw_bnd h
        refine ⟨rfl, 0, 0, hcc, hss, ok_X10_within e_44 ?_⟩
        intro hbr_42
        simp only [gt_nil, true_and, eq_self, gt_if, gt_iload, gt_ink, gw_nth, gt_iconst, gt_bipush, gt_s1_0, gt_s2_0, gt_s3_0, gt_s4_0, gt_s1_1, gt_s2_1, gt_s3_1, gt_s4_1, gt_acpy, Option.toList, List.cons_append, List.nil_append, Nat.add_zero, ka0_0, ra0_0_0, ra0_0_1, ka0_1, ka0_83]
        refine ⟨fun c_46 => ?_, fun c_46 => ?_⟩
        · replace h := gw_ifp h c_46
          refine hK _ _ _ _ _ _ _ ?_
          rw [fdX10_entry_55]
          simp only [gt_nil, true_and, eq_self, gt_iconst, gt_iret, gt_retz, bkX10_entry_55, ka0_0, ra0_0_0, ra0_0_1, ka0_1, ka0_83]
          obtain ⟨rfl, rfl, rfl⟩ := gw_inj3 h
          exact ⟨(Or.inl rfl), hcc, hss, hq (Or.inl rfl)⟩
        · replace h := gw_ifn h c_46
          obtain ⟨r_47, e_49, h⟩ := gw_bnd h
          refine ⟨rfl, 0, 0, hcc, hss, ok_X10_within e_49 ?_⟩
          intro hbr_47
          simp only [gt_nil, true_and, eq_self, gt_if, Option.toList, List.cons_append, List.nil_append, Nat.add_zero, ka0_0, ra0_0_0, ra0_0_1, ka0_1, ka0_83]
          refine ⟨fun c_51 => ?_, fun c_51 => ?_⟩
          · replace h := gw_ifp h c_51
            refine hK _ _ _ _ _ _ _ ?_
            rw [fdX10_entry_57]
            simp only [gt_nil, true_and, eq_self, gt_aload_n, gt_rfk, gw_nth, gt_get_r, gt_get_i, gt_get_z, gt_v0, gt_v1, gt_v2, gt_v3, gt_v4, gt_v5, gt_iload_n, gt_ink, gt_iload, gt_iconst, gt_iret, gt_retz, bkX10_entry_57, ka0_0, ra0_0_0, ra0_0_1, ka0_1, ka0_83]
            obtain ⟨⟨zr_52, zm_53⟩, h2, hz⟩ := gw_mp h
            clear h
            obtain ⟨rfl, rfl, rfl⟩ := gw_tup hz
            have h := h2
            replace hq : ((zr_52 = 0 ∨ zr_52 = 1) → Q (some (.int zr_52)) Sp zm_53) := hq
            refine ⟨rfl, mc, ms, Nat.le_of_eq (Nat.zero_add mc), Nat.le_of_eq (Nat.zero_add ms), hpu ?_⟩
            replace hcc : 0 + mc ≤ mc := Nat.le_of_eq (Nat.zero_add mc)
            replace hss : 0 + ms ≤ ms := Nat.le_of_eq (Nat.zero_add ms)
            have kpa0_0 : gw_kd Sp a0 = 10 := ((hmo hS0) 0 _ rfl).1
            have rpa0_0_0 : gw_rf Sp a0 0 = a0 + 1 := ((hmo hS0) 0 _ rfl).2.2 (0, 1) (by decide)
            have kpa0_1 : gw_kd Sp (a0 + 1) = 3 := ((hmo hS0) 1 _ rfl).1
            simp only [gt_nil, true_and, eq_self, gt_aload_n, gt_rfk, gw_nth, gt_get_r, gt_get_i, gt_get_z, gt_iload_n, gt_ink, gt_iload, gt_v0, gt_v1, gt_v2, gt_v3, gt_v4, gt_v5, gt_iconst, gt_iret, gt_retz, Option.toList, List.cons_append, List.nil_append, Nat.add_zero, kpa0_0, rpa0_0_0, kpa0_1]
            obtain ⟨μ_55, e_56, h⟩ := gw_bnd h
            refine ⟨rfl, 0, 0, hcc, hss, ok_X3_tellEntry (gw_sub (hmo hS0) 3 1 (by decide +kernel)) e_56 ?_⟩
            simp only [gt_nil, true_and, eq_self, gt_aload_n, gt_rfk, gw_nth, gt_get_r, gt_get_i, gt_get_z, gt_v0, gt_v1, gt_v2, gt_v3, gt_v4, gt_v5, gt_iconst, gt_iret, gt_retz, Option.toList, List.cons_append, List.nil_append, Nat.add_zero, kpa0_0, rpa0_0_0, kpa0_1]
            obtain ⟨μ_59, e_60, h⟩ := gw_bnd h
            refine ⟨rfl, 0, 0, hcc, hss, ok_X3_dealOut (gw_sub (hmo hS0) 3 1 (by decide +kernel)) e_60 ?_⟩
            simp only [gt_nil, true_and, eq_self, gt_iconst, gt_iret, gt_retz, Option.toList, List.cons_append, List.nil_append, Nat.add_zero, kpa0_0, rpa0_0_0, kpa0_1]
            obtain ⟨rfl, rfl⟩ := gw_inj2 h
            exact ⟨(Or.inr rfl), hcc, hss, hq (Or.inr rfl)⟩
          · replace h := gw_ifn h c_51
            refine hK _ _ _ _ _ _ _ ?_
            rw [fdX10_entry_55]
            simp only [gt_nil, true_and, eq_self, gt_iconst, gt_iret, gt_retz, bkX10_entry_55, ka0_0, ra0_0_0, ra0_0_1, ka0_1, ka0_83]
            obtain ⟨rfl, rfl, rfl⟩ := gw_inj3 h
            exact ⟨(Or.inl rfl), hcc, hss, hq (Or.inl rfl)⟩
def F_X10_clear (n0 : Nat) (a0 : Nat) (v1 : Int32) (v2 : Int32) (μ pu : gw_M) : Option (Int32 × gw_M × Bool) := (F_X3_mayTell n0 (a0 + 1) v1 μ).bind (fun (r_1 : Int32) => (if r_1 = 0 then some (0, μ, false) else (F_X10_isPage n0 v2 μ).bind (fun (r_6 : Int32) => (if r_6 = 0 then some (0, μ, false) else (F_X3_table n0 (a0 + 1) v1 μ).bind (fun (r_11 : Nat) => (F_X8_has n0 r_11 v2 μ).bind (fun (r_15 : Int32) => (if ¬ r_15 = 0 then (((F_X3_dropEntry n0 (a0 + 1) v1 v2 pu).bind (fun (μ_23 : gw_M) => (F_X3_dealOut n0 (a0 + 1) μ_23).bind (fun (μ_27 : gw_M) => some (1, μ_27)))).map (fun (z : Int32 × gw_M) => (z.1, z.2, true))) else some (0, μ, false))))))))
theorem ok_X10_clear {l : Launch} {x : gw_C} {d mc ms : Nat} {S Sp : gw_S} {Q : Option Value → gw_S → gw_M → Prop} {v1 v2 : Int32} {a0 n0 : Nat} {μ pu : gw_M} {r μ'} {b : Bool} (hmo : ∀ {c e : Nat}, gw_sh S c e → gw_sh Sp c e) (hpu : ∀ {Q1 : Option Value → gw_S → gw_M → Prop}, Q1 none Sp pu → gw_ok l x (d + 8) sgX5_push mc ms [.ref (a0 + 83), .ref (a0 + 1)] S μ Q1) (hS0 : gw_sh S 10 a0) (h : F_X10_clear n0 a0 v1 v2 μ pu = some (r, μ', b)) (hq : ((r = 0 ∨ r = 1) → Q (some (.int r)) (cond b Sp S) μ')) : gw_ok l x (d + 9) sgX10_clear mc ms [.ref a0, .int v1, .int v2] S μ Q := by
  refine gw_ok_of stX10_clear (lv0 := [.ref a0, .int v1, .int v2]) (Nat.le_of_ble_eq_true rfl) rfl rfl ?_
  intro K hK
  have hcc : 0 ≤ mc := Nat.zero_le _
  have hss : 0 ≤ ms := Nat.zero_le _
  have ka0_0 : gw_kd S a0 = 10 := (hS0 0 _ rfl).1
  have ra0_0_0 : gw_rf S a0 0 = a0 + 1 := (hS0 0 _ rfl).2.2 (0, 1) (by decide)
  have ra0_0_1 : gw_rf S a0 1 = a0 + 83 := (hS0 0 _ rfl).2.2 (1, 83) (by decide)
  have ka0_1 : gw_kd S (a0 + 1) = 3 := (hS0 1 _ rfl).1
  have ka0_83 : gw_kd S (a0 + 83) = 5 := (hS0 83 _ rfl).1
  unfold F_X10_clear at h
  refine hK _ _ _ _ _ _ _ ?_
  rw [fdX10_clear_0]
  simp only [gt_nil, true_and, eq_self, gt_aload_n, gt_rfk, gw_nth, gt_get_r, gt_get_i, gt_get_z, gt_iload_n, gt_ink, gt_v0, gt_v1, gt_v2, gt_v3, gt_v4, gt_v5, gt_if, gt_s1_0, gt_s2_0, gt_s3_0, gt_s4_0, gt_s1_1, gt_s2_1, gt_s3_1, gt_s4_1, gt_acpy, bkX10_clear_0, ka0_0, ra0_0_0, ra0_0_1, ka0_1, ka0_83]
  obtain ⟨r_1, e_3, h⟩ := gw_bnd h
  refine ⟨rfl, 0, 0, hcc, hss, ok_X3_mayTell (gw_sub hS0 3 1 (by decide +kernel)) e_3 ?_⟩
  intro hbr_1
  simp only [gt_nil, true_and, eq_self, gt_if, gt_iload_n, gt_ink, gw_nth, gt_s1_0, gt_s2_0, gt_s3_0, gt_s4_0, gt_s1_1, gt_s2_1, gt_s3_1, gt_s4_1, gt_acpy, gt_aload_n, gt_rfk, gt_get_r, gt_get_i, gt_get_z, gt_v0, gt_v1, gt_v2, gt_v3, gt_v4, gt_v5, Option.toList, List.cons_append, List.nil_append, Nat.add_zero, ka0_0, ra0_0_0, ra0_0_1, ka0_1, ka0_83]
  refine ⟨fun c_5 => ?_, fun c_5 => ?_⟩
  · replace h := gw_ifp h c_5
    refine hK _ _ _ _ _ _ _ ?_
    rw [fdX10_clear_33]
    simp only [gt_nil, true_and, eq_self, gt_iconst, gt_iret, gt_retz, bkX10_clear_33, ka0_0, ra0_0_0, ra0_0_1, ka0_1, ka0_83]
    obtain ⟨rfl, rfl, rfl⟩ := gw_inj3 h
    exact ⟨(Or.inl rfl), hcc, hss, hq (Or.inl rfl)⟩
  · replace h := gw_ifn h c_5
    obtain ⟨r_6, e_8, h⟩ := gw_bnd h
    refine ⟨rfl, 0, 0, hcc, hss, ok_X10_isPage e_8 ?_⟩
    intro hbr_6
    simp only [gt_nil, true_and, eq_self, gt_if, gt_aload_n, gt_rfk, gw_nth, gt_get_r, gt_get_i, gt_get_z, gt_iload_n, gt_ink, gt_v0, gt_v1, gt_v2, gt_v3, gt_v4, gt_v5, Option.toList, List.cons_append, List.nil_append, Nat.add_zero, ka0_0, ra0_0_0, ra0_0_1, ka0_1, ka0_83]
    refine ⟨fun c_10 => ?_, fun c_10 => ?_⟩
    · replace h := gw_ifp h c_10
      refine hK _ _ _ _ _ _ _ ?_
      rw [fdX10_clear_33]
      simp only [gt_nil, true_and, eq_self, gt_iconst, gt_iret, gt_retz, bkX10_clear_33, ka0_0, ra0_0_0, ra0_0_1, ka0_1, ka0_83]
      obtain ⟨rfl, rfl, rfl⟩ := gw_inj3 h
      exact ⟨(Or.inl rfl), hcc, hss, hq (Or.inl rfl)⟩
    · replace h := gw_ifn h c_10
      obtain ⟨r_11, e_13, h⟩ := gw_bnd h
      refine ⟨rfl, 0, 0, hcc, hss, ok_X3_table (gw_sub hS0 3 1 (by decide +kernel)) e_13 ?_⟩
      intro hsr_11
      have kr_11_0 : gw_kd S r_11 = 8 := (hsr_11 0 _ rfl).1
      simp only [gt_nil, true_and, eq_self, gt_iload_n, gt_ink, gw_nth, gt_v0, gt_v1, gt_v2, gt_v3, gt_v4, gt_v5, gt_if, Option.toList, List.cons_append, List.nil_append, Nat.add_zero, ka0_0, ra0_0_0, ra0_0_1, ka0_1, ka0_83, kr_11_0]
      obtain ⟨r_15, e_17, h⟩ := gw_bnd h
      refine ⟨rfl, 0, 0, hcc, hss, ok_X8_has hsr_11 e_17 ?_⟩
      intro hbr_15
      simp only [gt_nil, true_and, eq_self, gt_if, Option.toList, List.cons_append, List.nil_append, Nat.add_zero, ka0_0, ra0_0_0, ra0_0_1, ka0_1, ka0_83, kr_11_0]
      refine ⟨fun c_19 => ?_, fun c_19 => ?_⟩
      · replace h := gw_ifp h c_19
        refine hK _ _ _ _ _ _ _ ?_
        rw [fdX10_clear_35]
        simp only [gt_nil, true_and, eq_self, gt_aload_n, gt_rfk, gw_nth, gt_get_r, gt_get_i, gt_get_z, gt_v0, gt_v1, gt_v2, gt_v3, gt_v4, gt_v5, gt_iload_n, gt_ink, gt_iconst, gt_iret, gt_retz, bkX10_clear_35, ka0_0, ra0_0_0, ra0_0_1, ka0_1, ka0_83, kr_11_0]
        obtain ⟨⟨zr_20, zm_21⟩, h2, hz⟩ := gw_mp h
        clear h
        obtain ⟨rfl, rfl, rfl⟩ := gw_tup hz
        have h := h2
        replace hq : ((zr_20 = 0 ∨ zr_20 = 1) → Q (some (.int zr_20)) Sp zm_21) := hq
        refine ⟨rfl, mc, ms, Nat.le_of_eq (Nat.zero_add mc), Nat.le_of_eq (Nat.zero_add ms), hpu ?_⟩
        replace hcc : 0 + mc ≤ mc := Nat.le_of_eq (Nat.zero_add mc)
        replace hss : 0 + ms ≤ ms := Nat.le_of_eq (Nat.zero_add ms)
        have kpa0_0 : gw_kd Sp a0 = 10 := ((hmo hS0) 0 _ rfl).1
        have rpa0_0_0 : gw_rf Sp a0 0 = a0 + 1 := ((hmo hS0) 0 _ rfl).2.2 (0, 1) (by decide)
        have kpa0_1 : gw_kd Sp (a0 + 1) = 3 := ((hmo hS0) 1 _ rfl).1
        simp only [gt_nil, true_and, eq_self, gt_aload_n, gt_rfk, gw_nth, gt_get_r, gt_get_i, gt_get_z, gt_iload_n, gt_ink, gt_v0, gt_v1, gt_v2, gt_v3, gt_v4, gt_v5, gt_iconst, gt_iret, gt_retz, Option.toList, List.cons_append, List.nil_append, Nat.add_zero, kpa0_0, rpa0_0_0, kpa0_1]
        obtain ⟨μ_23, e_24, h⟩ := gw_bnd h
        refine ⟨rfl, 0, 0, hcc, hss, ok_X3_dropEntry (gw_sub (hmo hS0) 3 1 (by decide +kernel)) e_24 ?_⟩
        simp only [gt_nil, true_and, eq_self, gt_aload_n, gt_rfk, gw_nth, gt_get_r, gt_get_i, gt_get_z, gt_v0, gt_v1, gt_v2, gt_v3, gt_v4, gt_v5, gt_iconst, gt_iret, gt_retz, Option.toList, List.cons_append, List.nil_append, Nat.add_zero, kpa0_0, rpa0_0_0, kpa0_1]
        obtain ⟨μ_27, e_28, h⟩ := gw_bnd h
        refine ⟨rfl, 0, 0, hcc, hss, ok_X3_dealOut (gw_sub (hmo hS0) 3 1 (by decide +kernel)) e_28 ?_⟩
        simp only [gt_nil, true_and, eq_self, gt_iconst, gt_iret, gt_retz, Option.toList, List.cons_append, List.nil_append, Nat.add_zero, kpa0_0, rpa0_0_0, kpa0_1]
        obtain ⟨rfl, rfl⟩ := gw_inj2 h
        exact ⟨(Or.inr rfl), hcc, hss, hq (Or.inr rfl)⟩
      · replace h := gw_ifn h c_19
        refine hK _ _ _ _ _ _ _ ?_
        rw [fdX10_clear_33]
        simp only [gt_nil, true_and, eq_self, gt_iconst, gt_iret, gt_retz, bkX10_clear_33, ka0_0, ra0_0_0, ra0_0_1, ka0_1, ka0_83, kr_11_0]
        obtain ⟨rfl, rfl, rfl⟩ := gw_inj3 h
        exact ⟨(Or.inl rfl), hcc, hss, hq (Or.inl rfl)⟩
def F_X10_room (n0 : Nat) (a0 : Nat) (v1 : Int32) (μ pu : gw_M) : Option (Int32 × gw_M × Bool) := (F_X10_within n0 v1 1 16 μ).bind (fun (r_1 : Int32) => (if ¬ r_1 = 0 then (((F_X3_makeRoom n0 (a0 + 1) v1 pu).bind (fun (μ_9 : gw_M) => (F_X3_dealOut n0 (a0 + 1) μ_9).bind (fun (μ_13 : gw_M) => some (1, μ_13)))).map (fun (z : Int32 × gw_M) => (z.1, z.2, true))) else some (0, μ, false)))
theorem ok_X10_room {l : Launch} {x : gw_C} {d mc ms : Nat} {S Sp : gw_S} {Q : Option Value → gw_S → gw_M → Prop} {v1 : Int32} {a0 n0 : Nat} {μ pu : gw_M} {r μ'} {b : Bool} (hmo : ∀ {c e : Nat}, gw_sh S c e → gw_sh Sp c e) (hpu : ∀ {Q1 : Option Value → gw_S → gw_M → Prop}, Q1 none Sp pu → gw_ok l x (d + 8) sgX5_push mc ms [.ref (a0 + 83), .ref (a0 + 1)] S μ Q1) (hS0 : gw_sh S 10 a0) (h : F_X10_room n0 a0 v1 μ pu = some (r, μ', b)) (hq : ((r = 0 ∨ r = 1) → Q (some (.int r)) (cond b Sp S) μ')) : gw_ok l x (d + 9) sgX10_room mc ms [.ref a0, .int v1] S μ Q := by
  refine gw_ok_of stX10_room (lv0 := [.ref a0, .int v1]) (Nat.le_of_ble_eq_true rfl) rfl rfl ?_
  intro K hK
  have hcc : 0 ≤ mc := Nat.zero_le _
  have hss : 0 ≤ ms := Nat.zero_le _
  have ka0_0 : gw_kd S a0 = 10 := (hS0 0 _ rfl).1
  have ra0_0_0 : gw_rf S a0 0 = a0 + 1 := (hS0 0 _ rfl).2.2 (0, 1) (by decide)
  have ra0_0_1 : gw_rf S a0 1 = a0 + 83 := (hS0 0 _ rfl).2.2 (1, 83) (by decide)
  have ka0_83 : gw_kd S (a0 + 83) = 5 := (hS0 83 _ rfl).1
  unfold F_X10_room at h
  refine hK _ _ _ _ _ _ _ ?_
  rw [fdX10_room_0]
  simp only [gt_nil, true_and, eq_self, gt_iload_n, gt_ink, gw_nth, gt_iconst, gt_bipush, gt_s1_0, gt_s2_0, gt_s3_0, gt_s4_0, gt_s1_1, gt_s2_1, gt_s3_1, gt_s4_1, gt_acpy, gt_if, gt_iret, gt_retz, bkX10_room_0, ka0_0, ra0_0_0, ra0_0_1, ka0_83]
  obtain ⟨r_1, e_3, h⟩ := gw_bnd h
  refine ⟨rfl, 0, 0, hcc, hss, ok_X10_within e_3 ?_⟩
  intro hbr_1
  simp only [gt_nil, true_and, eq_self, gt_if, gt_iconst, gt_iret, gt_retz, Option.toList, List.cons_append, List.nil_append, Nat.add_zero, ka0_0, ra0_0_0, ra0_0_1, ka0_83]
  refine ⟨fun c_5 => ?_, fun c_5 => ?_⟩
  · replace h := gw_ifp h c_5
    refine hK _ _ _ _ _ _ _ ?_
    rw [fdX10_room_12]
    simp only [gt_nil, true_and, eq_self, gt_aload_n, gt_rfk, gw_nth, gt_get_r, gt_get_i, gt_get_z, gt_v0, gt_v1, gt_v2, gt_v3, gt_v4, gt_v5, gt_iload_n, gt_ink, gt_iconst, gt_iret, gt_retz, bkX10_room_12, ka0_0, ra0_0_0, ra0_0_1, ka0_83]
    obtain ⟨⟨zr_6, zm_7⟩, h2, hz⟩ := gw_mp h
    clear h
    obtain ⟨rfl, rfl, rfl⟩ := gw_tup hz
    have h := h2
    replace hq : ((zr_6 = 0 ∨ zr_6 = 1) → Q (some (.int zr_6)) Sp zm_7) := hq
    refine ⟨rfl, mc, ms, Nat.le_of_eq (Nat.zero_add mc), Nat.le_of_eq (Nat.zero_add ms), hpu ?_⟩
    replace hcc : 0 + mc ≤ mc := Nat.le_of_eq (Nat.zero_add mc)
    replace hss : 0 + ms ≤ ms := Nat.le_of_eq (Nat.zero_add ms)
    have kpa0_0 : gw_kd Sp a0 = 10 := ((hmo hS0) 0 _ rfl).1
    have rpa0_0_0 : gw_rf Sp a0 0 = a0 + 1 := ((hmo hS0) 0 _ rfl).2.2 (0, 1) (by decide)
    have kpa0_1 : gw_kd Sp (a0 + 1) = 3 := ((hmo hS0) 1 _ rfl).1
    simp only [gt_nil, true_and, eq_self, gt_aload_n, gt_rfk, gw_nth, gt_get_r, gt_get_i, gt_get_z, gt_iload_n, gt_ink, gt_v0, gt_v1, gt_v2, gt_v3, gt_v4, gt_v5, gt_iconst, gt_iret, gt_retz, Option.toList, List.cons_append, List.nil_append, Nat.add_zero, kpa0_0, rpa0_0_0, kpa0_1]
    obtain ⟨μ_9, e_10, h⟩ := gw_bnd h
    refine ⟨rfl, 0, 0, hcc, hss, ok_X3_makeRoom (gw_sub (hmo hS0) 3 1 (by decide +kernel)) e_10 ?_⟩
    simp only [gt_nil, true_and, eq_self, gt_aload_n, gt_rfk, gw_nth, gt_get_r, gt_get_i, gt_get_z, gt_v0, gt_v1, gt_v2, gt_v3, gt_v4, gt_v5, gt_iconst, gt_iret, gt_retz, Option.toList, List.cons_append, List.nil_append, Nat.add_zero, kpa0_0, rpa0_0_0, kpa0_1]
    obtain ⟨μ_13, e_14, h⟩ := gw_bnd h
    refine ⟨rfl, 0, 0, hcc, hss, ok_X3_dealOut (gw_sub (hmo hS0) 3 1 (by decide +kernel)) e_14 ?_⟩
    simp only [gt_nil, true_and, eq_self, gt_iconst, gt_iret, gt_retz, Option.toList, List.cons_append, List.nil_append, Nat.add_zero, kpa0_0, rpa0_0_0, kpa0_1]
    obtain ⟨rfl, rfl⟩ := gw_inj2 h
    exact ⟨(Or.inr rfl), hcc, hss, hq (Or.inr rfl)⟩
  · replace h := gw_ifn h c_5
    obtain ⟨rfl, rfl, rfl⟩ := gw_inj3 h
    exact ⟨(Or.inl rfl), hcc, hss, hq (Or.inl rfl)⟩
def F_X10_foldAhead (n0 : Nat) (a0 : Nat) (μ pu : gw_M) : Option (Int32 × gw_M × Bool) := (((gw_bi (F_X3_foldLazyPages n0 (a0 + 1) pu) (fun (r_3 : Int32) (μ_4 : gw_M) => (F_X3_dealOut n0 (a0 + 1) μ_4).bind (fun (μ_8 : gw_M) => some (r_3, μ_8))))).map (fun (z : Int32 × gw_M) => (z.1, z.2, true)))
theorem ok_X10_foldAhead {l : Launch} {x : gw_C} {d mc ms : Nat} {S Sp : gw_S} {Q : Option Value → gw_S → gw_M → Prop} {a0 n0 : Nat} {μ pu : gw_M} {r μ'} {b : Bool} (hmo : ∀ {c e : Nat}, gw_sh S c e → gw_sh Sp c e) (hpu : ∀ {Q1 : Option Value → gw_S → gw_M → Prop}, Q1 none Sp pu → gw_ok l x (d + 8) sgX5_push mc ms [.ref (a0 + 83), .ref (a0 + 1)] S μ Q1) (hS0 : gw_sh S 10 a0) (h : F_X10_foldAhead n0 a0 μ pu = some (r, μ', b)) (hq : Q (some (.int r)) (cond b Sp S) μ') : gw_ok l x (d + 9) sgX10_foldAhead mc ms [.ref a0] S μ Q := by
  refine gw_ok_of stX10_foldAhead (lv0 := [.ref a0, .retAddr 0]) (Nat.le_of_ble_eq_true rfl) rfl rfl ?_
  intro K hK
  have hcc : 0 ≤ mc := Nat.zero_le _
  have hss : 0 ≤ ms := Nat.zero_le _
  have ka0_0 : gw_kd S a0 = 10 := (hS0 0 _ rfl).1
  have ra0_0_0 : gw_rf S a0 0 = a0 + 1 := (hS0 0 _ rfl).2.2 (0, 1) (by decide)
  have ra0_0_1 : gw_rf S a0 1 = a0 + 83 := (hS0 0 _ rfl).2.2 (1, 83) (by decide)
  have ka0_83 : gw_kd S (a0 + 83) = 5 := (hS0 83 _ rfl).1
  unfold F_X10_foldAhead at h
  refine hK _ _ _ _ _ _ _ ?_
  rw [fdX10_foldAhead_0]
  simp only [gt_nil, true_and, eq_self, gt_aload_n, gt_rfk, gw_nth, gt_get_r, gt_get_i, gt_get_z, gt_v0, gt_v1, gt_v2, gt_v3, gt_v4, gt_v5, gt_istore_n, gw_set, gt_iload_n, gt_ink, gt_iret, gt_retz, bkX10_foldAhead_0, ka0_0, ra0_0_0, ra0_0_1, ka0_83]
  obtain ⟨⟨zr_1, zm_2⟩, h2, hz⟩ := gw_mp h
  clear h
  obtain ⟨rfl, rfl, rfl⟩ := gw_tup hz
  have h := h2
  replace hq : Q (some (.int zr_1)) Sp zm_2 := hq
  refine ⟨rfl, mc, ms, Nat.le_of_eq (Nat.zero_add mc), Nat.le_of_eq (Nat.zero_add ms), hpu ?_⟩
  replace hcc : 0 + mc ≤ mc := Nat.le_of_eq (Nat.zero_add mc)
  replace hss : 0 + ms ≤ ms := Nat.le_of_eq (Nat.zero_add ms)
  have kpa0_0 : gw_kd Sp a0 = 10 := ((hmo hS0) 0 _ rfl).1
  have rpa0_0_0 : gw_rf Sp a0 0 = a0 + 1 := ((hmo hS0) 0 _ rfl).2.2 (0, 1) (by decide)
  have kpa0_1 : gw_kd Sp (a0 + 1) = 3 := ((hmo hS0) 1 _ rfl).1
  simp only [gt_nil, true_and, eq_self, gt_aload_n, gt_rfk, gw_nth, gt_get_r, gt_get_i, gt_get_z, gt_v0, gt_v1, gt_v2, gt_v3, gt_v4, gt_v5, gt_istore_n, gw_set, gt_iload_n, gt_ink, gt_iret, gt_retz, Option.toList, List.cons_append, List.nil_append, Nat.add_zero, kpa0_0, rpa0_0_0, kpa0_1]
  obtain ⟨r_3, μ_4, e_5, h⟩ := gw_bnd2 h
  refine ⟨rfl, 0, 0, hcc, hss, ok_X3_foldLazyPages (gw_sub (hmo hS0) 3 1 (by decide +kernel)) e_5 ?_⟩
  simp only [gt_nil, true_and, eq_self, gt_istore_n, gw_set, gt_aload_n, gt_rfk, gw_nth, gt_get_r, gt_get_i, gt_get_z, gt_v0, gt_v1, gt_v2, gt_v3, gt_v4, gt_v5, gt_iload_n, gt_ink, gt_iret, gt_retz, Option.toList, List.cons_append, List.nil_append, Nat.add_zero, kpa0_0, rpa0_0_0, kpa0_1]
  obtain ⟨μ_8, e_9, h⟩ := gw_bnd h
  refine ⟨rfl, 0, 0, hcc, hss, ok_X3_dealOut (gw_sub (hmo hS0) 3 1 (by decide +kernel)) e_9 ?_⟩
  simp only [gt_nil, true_and, eq_self, gt_iload_n, gt_ink, gw_nth, gt_iret, gt_retz, Option.toList, List.cons_append, List.nil_append, Nat.add_zero, kpa0_0, rpa0_0_0, kpa0_1]
  obtain ⟨rfl, rfl⟩ := gw_inj2 h
  exact ⟨hcc, hss, hq⟩
def F_X10_join (n0 : Nat) (a0 : Nat) (μ pu : gw_M) : Option (Int32 × gw_M × Bool) := (((gw_bi (F_X3_joinFrames n0 (a0 + 1) pu) (fun (r_3 : Int32) (μ_4 : gw_M) => (F_X3_dealOut n0 (a0 + 1) μ_4).bind (fun (μ_8 : gw_M) => some (r_3, μ_8))))).map (fun (z : Int32 × gw_M) => (z.1, z.2, true)))
theorem ok_X10_join {l : Launch} {x : gw_C} {d mc ms : Nat} {S Sp : gw_S} {Q : Option Value → gw_S → gw_M → Prop} {a0 n0 : Nat} {μ pu : gw_M} {r μ'} {b : Bool} (hmo : ∀ {c e : Nat}, gw_sh S c e → gw_sh Sp c e) (hpu : ∀ {Q1 : Option Value → gw_S → gw_M → Prop}, Q1 none Sp pu → gw_ok l x (d + 8) sgX5_push mc ms [.ref (a0 + 83), .ref (a0 + 1)] S μ Q1) (hS0 : gw_sh S 10 a0) (h : F_X10_join n0 a0 μ pu = some (r, μ', b)) (hq : Q (some (.int r)) (cond b Sp S) μ') : gw_ok l x (d + 9) sgX10_join mc ms [.ref a0] S μ Q := by
  refine gw_ok_of stX10_join (lv0 := [.ref a0, .retAddr 0]) (Nat.le_of_ble_eq_true rfl) rfl rfl ?_
  intro K hK
  have hcc : 0 ≤ mc := Nat.zero_le _
  have hss : 0 ≤ ms := Nat.zero_le _
  have ka0_0 : gw_kd S a0 = 10 := (hS0 0 _ rfl).1
  have ra0_0_0 : gw_rf S a0 0 = a0 + 1 := (hS0 0 _ rfl).2.2 (0, 1) (by decide)
  have ra0_0_1 : gw_rf S a0 1 = a0 + 83 := (hS0 0 _ rfl).2.2 (1, 83) (by decide)
  have ka0_83 : gw_kd S (a0 + 83) = 5 := (hS0 83 _ rfl).1
  unfold F_X10_join at h
  refine hK _ _ _ _ _ _ _ ?_
  rw [fdX10_join_0]
  simp only [gt_nil, true_and, eq_self, gt_aload_n, gt_rfk, gw_nth, gt_get_r, gt_get_i, gt_get_z, gt_v0, gt_v1, gt_v2, gt_v3, gt_v4, gt_v5, gt_istore_n, gw_set, gt_iload_n, gt_ink, gt_iret, gt_retz, bkX10_join_0, ka0_0, ra0_0_0, ra0_0_1, ka0_83]
  obtain ⟨⟨zr_1, zm_2⟩, h2, hz⟩ := gw_mp h
  clear h
  obtain ⟨rfl, rfl, rfl⟩ := gw_tup hz
  have h := h2
  replace hq : Q (some (.int zr_1)) Sp zm_2 := hq
  refine ⟨rfl, mc, ms, Nat.le_of_eq (Nat.zero_add mc), Nat.le_of_eq (Nat.zero_add ms), hpu ?_⟩
  replace hcc : 0 + mc ≤ mc := Nat.le_of_eq (Nat.zero_add mc)
  replace hss : 0 + ms ≤ ms := Nat.le_of_eq (Nat.zero_add ms)
  have kpa0_0 : gw_kd Sp a0 = 10 := ((hmo hS0) 0 _ rfl).1
  have rpa0_0_0 : gw_rf Sp a0 0 = a0 + 1 := ((hmo hS0) 0 _ rfl).2.2 (0, 1) (by decide)
  have kpa0_1 : gw_kd Sp (a0 + 1) = 3 := ((hmo hS0) 1 _ rfl).1
  simp only [gt_nil, true_and, eq_self, gt_aload_n, gt_rfk, gw_nth, gt_get_r, gt_get_i, gt_get_z, gt_v0, gt_v1, gt_v2, gt_v3, gt_v4, gt_v5, gt_istore_n, gw_set, gt_iload_n, gt_ink, gt_iret, gt_retz, Option.toList, List.cons_append, List.nil_append, Nat.add_zero, kpa0_0, rpa0_0_0, kpa0_1]
  obtain ⟨r_3, μ_4, e_5, h⟩ := gw_bnd2 h
  refine ⟨rfl, 0, 0, hcc, hss, ok_X3_joinFrames (gw_sub (hmo hS0) 3 1 (by decide +kernel)) e_5 ?_⟩
  simp only [gt_nil, true_and, eq_self, gt_istore_n, gw_set, gt_aload_n, gt_rfk, gw_nth, gt_get_r, gt_get_i, gt_get_z, gt_v0, gt_v1, gt_v2, gt_v3, gt_v4, gt_v5, gt_iload_n, gt_ink, gt_iret, gt_retz, Option.toList, List.cons_append, List.nil_append, Nat.add_zero, kpa0_0, rpa0_0_0, kpa0_1]
  obtain ⟨μ_8, e_9, h⟩ := gw_bnd h
  refine ⟨rfl, 0, 0, hcc, hss, ok_X3_dealOut (gw_sub (hmo hS0) 3 1 (by decide +kernel)) e_9 ?_⟩
  simp only [gt_nil, true_and, eq_self, gt_iload_n, gt_ink, gw_nth, gt_iret, gt_retz, Option.toList, List.cons_append, List.nil_append, Nat.add_zero, kpa0_0, rpa0_0_0, kpa0_1]
  obtain ⟨rfl, rfl⟩ := gw_inj2 h
  exact ⟨hcc, hss, hq⟩
def F_X10_trapPlace (n0 : Nat) (a0 : Nat) (v1 : Int32) (μ pu : gw_M) : Option (Int32 × gw_M × Bool) := (F_X10_within n0 v1 (-1) 23 μ).bind (fun (r_1 : Int32) => (if ¬ r_1 = 0 then (((F_X3_inHand n0 (a0 + 1) pu).bind (fun (r_8 : Nat) => gw_let (gw_up pu r_8 3 v1) (fun (μ_12 : gw_M) => (F_X3_dealOut n0 (a0 + 1) μ_12).bind (fun (μ_14 : gw_M) => some (1, μ_14))))).map (fun (z : Int32 × gw_M) => (z.1, z.2, true))) else some (0, μ, false)))
theorem ok_X10_trapPlace {l : Launch} {x : gw_C} {d mc ms : Nat} {S Sp : gw_S} {Q : Option Value → gw_S → gw_M → Prop} {v1 : Int32} {a0 n0 : Nat} {μ pu : gw_M} {r μ'} {b : Bool} (hmo : ∀ {c e : Nat}, gw_sh S c e → gw_sh Sp c e) (hpu : ∀ {Q1 : Option Value → gw_S → gw_M → Prop}, Q1 none Sp pu → gw_ok l x (d + 8) sgX5_push mc ms [.ref (a0 + 83), .ref (a0 + 1)] S μ Q1) (hS0 : gw_sh S 10 a0) (h : F_X10_trapPlace n0 a0 v1 μ pu = some (r, μ', b)) (hq : ((r = 0 ∨ r = 1) → Q (some (.int r)) (cond b Sp S) μ')) : gw_ok l x (d + 9) sgX10_trapPlace mc ms [.ref a0, .int v1] S μ Q := by
  refine gw_ok_of stX10_trapPlace (lv0 := [.ref a0, .int v1]) (Nat.le_of_ble_eq_true rfl) rfl rfl ?_
  intro K hK
  have hcc : 0 ≤ mc := Nat.zero_le _
  have hss : 0 ≤ ms := Nat.zero_le _
  have ka0_0 : gw_kd S a0 = 10 := (hS0 0 _ rfl).1
  have ra0_0_0 : gw_rf S a0 0 = a0 + 1 := (hS0 0 _ rfl).2.2 (0, 1) (by decide)
  have ra0_0_1 : gw_rf S a0 1 = a0 + 83 := (hS0 0 _ rfl).2.2 (1, 83) (by decide)
  have ka0_83 : gw_kd S (a0 + 83) = 5 := (hS0 83 _ rfl).1
  unfold F_X10_trapPlace at h
  refine hK _ _ _ _ _ _ _ ?_
  rw [fdX10_trapPlace_0]
  simp only [gt_nil, true_and, eq_self, gt_iload_n, gt_ink, gw_nth, gt_iconst, gt_bipush, gt_s1_0, gt_s2_0, gt_s3_0, gt_s4_0, gt_s1_1, gt_s2_1, gt_s3_1, gt_s4_1, gt_acpy, gt_if, gt_iret, gt_retz, bkX10_trapPlace_0, ka0_0, ra0_0_0, ra0_0_1, ka0_83]
  obtain ⟨r_1, e_3, h⟩ := gw_bnd h
  refine ⟨rfl, 0, 0, hcc, hss, ok_X10_within e_3 ?_⟩
  intro hbr_1
  simp only [gt_nil, true_and, eq_self, gt_if, gt_iconst, gt_iret, gt_retz, Option.toList, List.cons_append, List.nil_append, Nat.add_zero, ka0_0, ra0_0_0, ra0_0_1, ka0_83]
  refine ⟨fun c_5 => ?_, fun c_5 => ?_⟩
  · replace h := gw_ifp h c_5
    refine hK _ _ _ _ _ _ _ ?_
    rw [fdX10_trapPlace_12]
    simp only [gt_nil, true_and, eq_self, gt_aload_n, gt_rfk, gw_nth, gt_get_r, gt_get_i, gt_get_z, gt_v0, gt_v1, gt_v2, gt_v3, gt_v4, gt_v5, gt_iload_n, gt_ink, gt_put_i, gt_putz, gt_iconst, gt_iret, gt_retz, bkX10_trapPlace_12, ka0_0, ra0_0_0, ra0_0_1, ka0_83]
    obtain ⟨⟨zr_6, zm_7⟩, h2, hz⟩ := gw_mp h
    clear h
    obtain ⟨rfl, rfl, rfl⟩ := gw_tup hz
    have h := h2
    replace hq : ((zr_6 = 0 ∨ zr_6 = 1) → Q (some (.int zr_6)) Sp zm_7) := hq
    refine ⟨rfl, mc, ms, Nat.le_of_eq (Nat.zero_add mc), Nat.le_of_eq (Nat.zero_add ms), hpu ?_⟩
    replace hcc : 0 + mc ≤ mc := Nat.le_of_eq (Nat.zero_add mc)
    replace hss : 0 + ms ≤ ms := Nat.le_of_eq (Nat.zero_add ms)
    have kpa0_0 : gw_kd Sp a0 = 10 := ((hmo hS0) 0 _ rfl).1
    have rpa0_0_0 : gw_rf Sp a0 0 = a0 + 1 := ((hmo hS0) 0 _ rfl).2.2 (0, 1) (by decide)
    have kpa0_1 : gw_kd Sp (a0 + 1) = 3 := ((hmo hS0) 1 _ rfl).1
    simp only [gt_nil, true_and, eq_self, gt_aload_n, gt_rfk, gw_nth, gt_get_r, gt_get_i, gt_get_z, gt_v0, gt_v1, gt_v2, gt_v3, gt_v4, gt_v5, gt_iload_n, gt_ink, gt_put_i, gt_putz, gt_iconst, gt_iret, gt_retz, Option.toList, List.cons_append, List.nil_append, Nat.add_zero, kpa0_0, rpa0_0_0, kpa0_1]
    obtain ⟨r_8, e_10, h⟩ := gw_bnd h
    refine ⟨rfl, 0, 0, hcc, hss, ok_X3_inHand (gw_sub (hmo hS0) 3 1 (by decide +kernel)) e_10 ?_⟩
    intro hsr_8
    have kpr_8_0 : gw_kd Sp r_8 = 1 := (hsr_8 0 _ rfl).1
    simp only [gt_nil, true_and, eq_self, gt_iload_n, gt_ink, gw_nth, gt_put_i, gt_putz, gt_aload_n, gt_rfk, gt_get_r, gt_get_i, gt_get_z, gt_v0, gt_v1, gt_v2, gt_v3, gt_v4, gt_v5, gt_iconst, gt_iret, gt_retz, Option.toList, List.cons_append, List.nil_append, Nat.add_zero, kpa0_0, rpa0_0_0, kpa0_1, kpr_8_0]
    obtain ⟨μ_12, hμ_12, h⟩ := gw_lt h
    try rw [← hμ_12]
    obtain ⟨μ_14, e_15, h⟩ := gw_bnd h
    refine ⟨rfl, 0, 0, hcc, hss, ok_X3_dealOut (gw_sub (hmo hS0) 3 1 (by decide +kernel)) e_15 ?_⟩
    simp only [gt_nil, true_and, eq_self, gt_iconst, gt_iret, gt_retz, Option.toList, List.cons_append, List.nil_append, Nat.add_zero, kpa0_0, rpa0_0_0, kpa0_1, kpr_8_0]
    obtain ⟨rfl, rfl⟩ := gw_inj2 h
    exact ⟨(Or.inr rfl), hcc, hss, hq (Or.inr rfl)⟩
  · replace h := gw_ifn h c_5
    obtain ⟨rfl, rfl, rfl⟩ := gw_inj3 h
    exact ⟨(Or.inl rfl), hcc, hss, hq (Or.inl rfl)⟩
def F_X10_want (n0 : Nat) (a0 : Nat) (v1 : Int32) (v2 : Int32) (μ pu : gw_M) : Option (Int32 × gw_M × Bool) := (if v1 = 0 then (if (1 : Int32) = 0 then some (0, μ, false) else (F_X10_within n0 v2 0 255 μ).bind (fun (r_3 : Int32) => (if ¬ r_3 = 0 then (((if 0 ≤ v1 ∧ v1.toNatClampNeg < 2 then gw_let (gw_up pu (a0 + 20) v1.toNatClampNeg v2) (fun (μ_11 : gw_M) => (F_X3_dealOut n0 (a0 + 1) μ_11).bind (fun (μ_13 : gw_M) => some (1, μ_13))) else none)).map (fun (z : Int32 × gw_M) => (z.1, z.2, true))) else some (0, μ, false)))) else (if ¬ v1 = 1 then (if (0 : Int32) = 0 then some (0, μ, false) else (F_X10_within n0 v2 0 255 μ).bind (fun (r_18 : Int32) => (if ¬ r_18 = 0 then (((if 0 ≤ v1 ∧ v1.toNatClampNeg < 2 then gw_let (gw_up pu (a0 + 20) v1.toNatClampNeg v2) (fun (μ_26 : gw_M) => (F_X3_dealOut n0 (a0 + 1) μ_26).bind (fun (μ_28 : gw_M) => some (1, μ_28))) else none)).map (fun (z : Int32 × gw_M) => (z.1, z.2, true))) else some (0, μ, false)))) else (if ¬ (μ (a0 + 1) 6) = 1 then (if (0 : Int32) = 0 then some (0, μ, false) else (F_X10_within n0 v2 0 255 μ).bind (fun (r_33 : Int32) => (if ¬ r_33 = 0 then (((if 0 ≤ v1 ∧ v1.toNatClampNeg < 2 then gw_let (gw_up pu (a0 + 20) v1.toNatClampNeg v2) (fun (μ_41 : gw_M) => (F_X3_dealOut n0 (a0 + 1) μ_41).bind (fun (μ_43 : gw_M) => some (1, μ_43))) else none)).map (fun (z : Int32 × gw_M) => (z.1, z.2, true))) else some (0, μ, false)))) else (if (1 : Int32) = 0 then some (0, μ, false) else (F_X10_within n0 v2 0 255 μ).bind (fun (r_47 : Int32) => (if ¬ r_47 = 0 then (((if 0 ≤ v1 ∧ v1.toNatClampNeg < 2 then gw_let (gw_up pu (a0 + 20) v1.toNatClampNeg v2) (fun (μ_55 : gw_M) => (F_X3_dealOut n0 (a0 + 1) μ_55).bind (fun (μ_57 : gw_M) => some (1, μ_57))) else none)).map (fun (z : Int32 × gw_M) => (z.1, z.2, true))) else some (0, μ, false)))))))
theorem ok_X10_want {l : Launch} {x : gw_C} {d mc ms : Nat} {S Sp : gw_S} {Q : Option Value → gw_S → gw_M → Prop} {v1 v2 : Int32} {a0 n0 : Nat} {μ pu : gw_M} {r μ'} {b : Bool} (hmo : ∀ {c e : Nat}, gw_sh S c e → gw_sh Sp c e) (hpu : ∀ {Q1 : Option Value → gw_S → gw_M → Prop}, Q1 none Sp pu → gw_ok l x (d + 8) sgX5_push mc ms [.ref (a0 + 83), .ref (a0 + 1)] S μ Q1) (hS0 : gw_sh S 10 a0) (h : F_X10_want n0 a0 v1 v2 μ pu = some (r, μ', b)) (hq : ((r = 0 ∨ r = 1) → Q (some (.int r)) (cond b Sp S) μ')) : gw_ok l x (d + 9) sgX10_want mc ms [.ref a0, .int v1, .int v2] S μ Q := by
  refine gw_ok_of stX10_want (lv0 := [.ref a0, .int v1, .int v2, .retAddr 0]) (Nat.le_of_ble_eq_true rfl) rfl rfl ?_
  intro K hK
  have hcc : 0 ≤ mc := Nat.zero_le _
  have hss : 0 ≤ ms := Nat.zero_le _
  have ka0_0 : gw_kd S a0 = 10 := (hS0 0 _ rfl).1
  have ra0_0_0 : gw_rf S a0 0 = a0 + 1 := (hS0 0 _ rfl).2.2 (0, 1) (by decide)
  have ra0_0_1 : gw_rf S a0 1 = a0 + 83 := (hS0 0 _ rfl).2.2 (1, 83) (by decide)
  have ka0_1 : gw_kd S (a0 + 1) = 3 := (hS0 1 _ rfl).1
  have ka0_83 : gw_kd S (a0 + 83) = 5 := (hS0 83 _ rfl).1
  unfold F_X10_want at h
  refine hK _ _ _ _ _ _ _ ?_
  rw [fdX10_want_0]
  simp only [gt_nil, true_and, eq_self, gt_iload_n, gt_ink, gw_nth, gt_if, gt_iconst, gt_icmp, gt_aload_n, gt_rfk, gt_get_r, gt_get_i, gt_get_z, bkX10_want_0, ka0_0, ra0_0_0, ra0_0_1, ka0_1, ka0_83]
  refine ⟨fun c_1 => ?_, fun c_1 => ?_⟩
  · replace h := gw_ifp h c_1
    refine hK _ _ _ _ _ _ _ ?_
    rw [fdX10_want_20]
    simp only [gt_nil, true_and, eq_self, gt_iconst, gt_goto, bkX10_want_20, ka0_0, ra0_0_0, ra0_0_1, ka0_1, ka0_83]
    refine hK _ _ _ _ _ _ _ ?_
    rw [fdX10_want_25]
    simp only [gt_nil, true_and, eq_self, gt_istore_n, gw_set, gt_iload_n, gt_ink, gw_nth, gt_if, gt_iconst, gt_sipush, gt_s1_0, gt_s2_0, gt_s3_0, gt_s4_0, gt_s1_1, gt_s2_1, gt_s3_1, gt_s4_1, gt_acpy, bkX10_want_25, ka0_0, ra0_0_0, ra0_0_1, ka0_1, ka0_83]
    refine ⟨fun c_2 => ?_, fun c_2 => ?_⟩
    · replace h := gw_ifp h c_2
      refine hK _ _ _ _ _ _ _ ?_
      rw [fdX10_want_41]
      simp only [gt_nil, true_and, eq_self, gt_iconst, gt_iret, gt_retz, bkX10_want_41, ka0_0, ra0_0_0, ra0_0_1, ka0_1, ka0_83]
      obtain ⟨rfl, rfl, rfl⟩ := gw_inj3 h
      exact ⟨(Or.inl rfl), hcc, hss, hq (Or.inl rfl)⟩
    · replace h := gw_ifn h c_2
      obtain ⟨r_3, e_5, h⟩ := gw_bnd h
      refine ⟨rfl, 0, 0, hcc, hss, ok_X10_within e_5 ?_⟩
      intro hbr_3
      simp only [gt_nil, true_and, eq_self, gt_if, Option.toList, List.cons_append, List.nil_append, Nat.add_zero, ka0_0, ra0_0_0, ra0_0_1, ka0_1, ka0_83]
      refine ⟨fun c_7 => ?_, fun c_7 => ?_⟩
      · replace h := gw_ifp h c_7
        refine hK _ _ _ _ _ _ _ ?_
        rw [fdX10_want_43]
        simp only [gt_nil, true_and, eq_self, gt_aload_n, gt_rfk, gw_nth, gt_get_r, gt_get_i, gt_get_z, gt_v0, gt_v1, gt_v2, gt_v3, gt_v4, gt_v5, gt_iload_n, gt_ink, gt_iastore, gt_iconst, gt_iret, gt_retz, bkX10_want_43, ka0_0, ra0_0_0, ra0_0_1, ka0_1, ka0_83]
        obtain ⟨⟨zr_8, zm_9⟩, h2, hz⟩ := gw_mp h
        clear h
        obtain ⟨rfl, rfl, rfl⟩ := gw_tup hz
        have h := h2
        replace hq : ((zr_8 = 0 ∨ zr_8 = 1) → Q (some (.int zr_8)) Sp zm_9) := hq
        refine ⟨rfl, mc, ms, Nat.le_of_eq (Nat.zero_add mc), Nat.le_of_eq (Nat.zero_add ms), hpu ?_⟩
        replace hcc : 0 + mc ≤ mc := Nat.le_of_eq (Nat.zero_add mc)
        replace hss : 0 + ms ≤ ms := Nat.le_of_eq (Nat.zero_add ms)
        have kpa0_0 : gw_kd Sp a0 = 10 := ((hmo hS0) 0 _ rfl).1
        have rpa0_0_0 : gw_rf Sp a0 0 = a0 + 1 := ((hmo hS0) 0 _ rfl).2.2 (0, 1) (by decide)
        have kpa0_1 : gw_kd Sp (a0 + 1) = 3 := ((hmo hS0) 1 _ rfl).1
        have rpa0_1_8 : gw_rf Sp (a0 + 1) 8 = a0 + 20 := ((hmo hS0) 1 _ rfl).2.2 (8, 20) (by decide)
        have kpa0_20 : gw_kd Sp (a0 + 20) = 12 := ((hmo hS0) 20 _ rfl).1
        have lpa0_20 : gw_ln Sp (a0 + 20) = 2 := ((hmo hS0) 20 _ rfl).2.1
        simp only [gt_nil, true_and, eq_self, gt_aload_n, gt_rfk, gw_nth, gt_get_r, gt_get_i, gt_get_z, gt_iload_n, gt_ink, gt_iastore, gt_v0, gt_v1, gt_v2, gt_v3, gt_v4, gt_v5, gt_iconst, gt_iret, gt_retz, Option.toList, List.cons_append, List.nil_append, Nat.add_zero, kpa0_0, rpa0_0_0, kpa0_1, rpa0_1_8, kpa0_20, lpa0_20]
        obtain ⟨c_10, h⟩ := gw_ife h
        refine ⟨c_10, ?_⟩
        obtain ⟨μ_11, hμ_11, h⟩ := gw_lt h
        try rw [← hμ_11]
        obtain ⟨μ_13, e_14, h⟩ := gw_bnd h
        refine ⟨rfl, 0, 0, hcc, hss, ok_X3_dealOut (gw_sub (hmo hS0) 3 1 (by decide +kernel)) e_14 ?_⟩
        simp only [gt_nil, true_and, eq_self, gt_iconst, gt_iret, gt_retz, Option.toList, List.cons_append, List.nil_append, Nat.add_zero, kpa0_0, rpa0_0_0, kpa0_1, rpa0_1_8, kpa0_20, lpa0_20]
        obtain ⟨rfl, rfl⟩ := gw_inj2 h
        exact ⟨(Or.inr rfl), hcc, hss, hq (Or.inr rfl)⟩
      · replace h := gw_ifn h c_7
        refine hK _ _ _ _ _ _ _ ?_
        rw [fdX10_want_41]
        simp only [gt_nil, true_and, eq_self, gt_iconst, gt_iret, gt_retz, bkX10_want_41, ka0_0, ra0_0_0, ra0_0_1, ka0_1, ka0_83]
        obtain ⟨rfl, rfl, rfl⟩ := gw_inj3 h
        exact ⟨(Or.inl rfl), hcc, hss, hq (Or.inl rfl)⟩
  · replace h := gw_ifn h c_1
    refine ⟨fun c_16 => ?_, fun c_16 => ?_⟩
    · replace h := gw_ifp2 (gw_c2_ne _ _) h c_16
      refine hK _ _ _ _ _ _ _ ?_
      rw [fdX10_want_24]
      simp only [gt_nil, true_and, eq_self, gt_iconst, bkX10_want_24, ka0_0, ra0_0_0, ra0_0_1, ka0_1, ka0_83]
      refine hK _ _ _ _ _ _ _ ?_
      rw [fdX10_want_25]
      simp only [gt_nil, true_and, eq_self, gt_istore_n, gw_set, gt_iload_n, gt_ink, gw_nth, gt_if, gt_iconst, gt_sipush, gt_s1_0, gt_s2_0, gt_s3_0, gt_s4_0, gt_s1_1, gt_s2_1, gt_s3_1, gt_s4_1, gt_acpy, bkX10_want_25, ka0_0, ra0_0_0, ra0_0_1, ka0_1, ka0_83]
      refine ⟨fun c_17 => ?_, fun c_17 => ?_⟩
      · replace h := gw_ifp h c_17
        refine hK _ _ _ _ _ _ _ ?_
        rw [fdX10_want_41]
        simp only [gt_nil, true_and, eq_self, gt_iconst, gt_iret, gt_retz, bkX10_want_41, ka0_0, ra0_0_0, ra0_0_1, ka0_1, ka0_83]
        obtain ⟨rfl, rfl, rfl⟩ := gw_inj3 h
        exact ⟨(Or.inl rfl), hcc, hss, hq (Or.inl rfl)⟩
      · replace h := gw_ifn h c_17
        obtain ⟨r_18, e_20, h⟩ := gw_bnd h
        refine ⟨rfl, 0, 0, hcc, hss, ok_X10_within e_20 ?_⟩
        intro hbr_18
        simp only [gt_nil, true_and, eq_self, gt_if, Option.toList, List.cons_append, List.nil_append, Nat.add_zero, ka0_0, ra0_0_0, ra0_0_1, ka0_1, ka0_83]
        refine ⟨fun c_22 => ?_, fun c_22 => ?_⟩
        · replace h := gw_ifp h c_22
          refine hK _ _ _ _ _ _ _ ?_
          rw [fdX10_want_43]
          simp only [gt_nil, true_and, eq_self, gt_aload_n, gt_rfk, gw_nth, gt_get_r, gt_get_i, gt_get_z, gt_v0, gt_v1, gt_v2, gt_v3, gt_v4, gt_v5, gt_iload_n, gt_ink, gt_iastore, gt_iconst, gt_iret, gt_retz, bkX10_want_43, ka0_0, ra0_0_0, ra0_0_1, ka0_1, ka0_83]
          obtain ⟨⟨zr_23, zm_24⟩, h2, hz⟩ := gw_mp h
          clear h
          obtain ⟨rfl, rfl, rfl⟩ := gw_tup hz
          have h := h2
          replace hq : ((zr_23 = 0 ∨ zr_23 = 1) → Q (some (.int zr_23)) Sp zm_24) := hq
          refine ⟨rfl, mc, ms, Nat.le_of_eq (Nat.zero_add mc), Nat.le_of_eq (Nat.zero_add ms), hpu ?_⟩
          replace hcc : 0 + mc ≤ mc := Nat.le_of_eq (Nat.zero_add mc)
          replace hss : 0 + ms ≤ ms := Nat.le_of_eq (Nat.zero_add ms)
          have kpa0_0 : gw_kd Sp a0 = 10 := ((hmo hS0) 0 _ rfl).1
          have rpa0_0_0 : gw_rf Sp a0 0 = a0 + 1 := ((hmo hS0) 0 _ rfl).2.2 (0, 1) (by decide)
          have kpa0_1 : gw_kd Sp (a0 + 1) = 3 := ((hmo hS0) 1 _ rfl).1
          have rpa0_1_8 : gw_rf Sp (a0 + 1) 8 = a0 + 20 := ((hmo hS0) 1 _ rfl).2.2 (8, 20) (by decide)
          have kpa0_20 : gw_kd Sp (a0 + 20) = 12 := ((hmo hS0) 20 _ rfl).1
          have lpa0_20 : gw_ln Sp (a0 + 20) = 2 := ((hmo hS0) 20 _ rfl).2.1
          simp only [gt_nil, true_and, eq_self, gt_aload_n, gt_rfk, gw_nth, gt_get_r, gt_get_i, gt_get_z, gt_iload_n, gt_ink, gt_iastore, gt_v0, gt_v1, gt_v2, gt_v3, gt_v4, gt_v5, gt_iconst, gt_iret, gt_retz, Option.toList, List.cons_append, List.nil_append, Nat.add_zero, kpa0_0, rpa0_0_0, kpa0_1, rpa0_1_8, kpa0_20, lpa0_20]
          obtain ⟨c_25, h⟩ := gw_ife h
          refine ⟨c_25, ?_⟩
          obtain ⟨μ_26, hμ_26, h⟩ := gw_lt h
          try rw [← hμ_26]
          obtain ⟨μ_28, e_29, h⟩ := gw_bnd h
          refine ⟨rfl, 0, 0, hcc, hss, ok_X3_dealOut (gw_sub (hmo hS0) 3 1 (by decide +kernel)) e_29 ?_⟩
          simp only [gt_nil, true_and, eq_self, gt_iconst, gt_iret, gt_retz, Option.toList, List.cons_append, List.nil_append, Nat.add_zero, kpa0_0, rpa0_0_0, kpa0_1, rpa0_1_8, kpa0_20, lpa0_20]
          obtain ⟨rfl, rfl⟩ := gw_inj2 h
          exact ⟨(Or.inr rfl), hcc, hss, hq (Or.inr rfl)⟩
        · replace h := gw_ifn h c_22
          refine hK _ _ _ _ _ _ _ ?_
          rw [fdX10_want_41]
          simp only [gt_nil, true_and, eq_self, gt_iconst, gt_iret, gt_retz, bkX10_want_41, ka0_0, ra0_0_0, ra0_0_1, ka0_1, ka0_83]
          obtain ⟨rfl, rfl, rfl⟩ := gw_inj3 h
          exact ⟨(Or.inl rfl), hcc, hss, hq (Or.inl rfl)⟩
    · replace h := gw_ifn2 (gw_c2_ne _ _) h c_16
      refine ⟨fun c_31 => ?_, fun c_31 => ?_⟩
      · replace h := gw_ifp2 (gw_c2_ne _ _) h c_31
        refine hK _ _ _ _ _ _ _ ?_
        rw [fdX10_want_24]
        simp only [gt_nil, true_and, eq_self, gt_iconst, bkX10_want_24, ka0_0, ra0_0_0, ra0_0_1, ka0_1, ka0_83]
        refine hK _ _ _ _ _ _ _ ?_
        rw [fdX10_want_25]
        simp only [gt_nil, true_and, eq_self, gt_istore_n, gw_set, gt_iload_n, gt_ink, gw_nth, gt_if, gt_iconst, gt_sipush, gt_s1_0, gt_s2_0, gt_s3_0, gt_s4_0, gt_s1_1, gt_s2_1, gt_s3_1, gt_s4_1, gt_acpy, bkX10_want_25, ka0_0, ra0_0_0, ra0_0_1, ka0_1, ka0_83]
        refine ⟨fun c_32 => ?_, fun c_32 => ?_⟩
        · replace h := gw_ifp h c_32
          refine hK _ _ _ _ _ _ _ ?_
          rw [fdX10_want_41]
          simp only [gt_nil, true_and, eq_self, gt_iconst, gt_iret, gt_retz, bkX10_want_41, ka0_0, ra0_0_0, ra0_0_1, ka0_1, ka0_83]
          obtain ⟨rfl, rfl, rfl⟩ := gw_inj3 h
          exact ⟨(Or.inl rfl), hcc, hss, hq (Or.inl rfl)⟩
        · replace h := gw_ifn h c_32
          obtain ⟨r_33, e_35, h⟩ := gw_bnd h
          refine ⟨rfl, 0, 0, hcc, hss, ok_X10_within e_35 ?_⟩
          intro hbr_33
          simp only [gt_nil, true_and, eq_self, gt_if, Option.toList, List.cons_append, List.nil_append, Nat.add_zero, ka0_0, ra0_0_0, ra0_0_1, ka0_1, ka0_83]
          refine ⟨fun c_37 => ?_, fun c_37 => ?_⟩
          · replace h := gw_ifp h c_37
            refine hK _ _ _ _ _ _ _ ?_
            rw [fdX10_want_43]
            simp only [gt_nil, true_and, eq_self, gt_aload_n, gt_rfk, gw_nth, gt_get_r, gt_get_i, gt_get_z, gt_v0, gt_v1, gt_v2, gt_v3, gt_v4, gt_v5, gt_iload_n, gt_ink, gt_iastore, gt_iconst, gt_iret, gt_retz, bkX10_want_43, ka0_0, ra0_0_0, ra0_0_1, ka0_1, ka0_83]
            obtain ⟨⟨zr_38, zm_39⟩, h2, hz⟩ := gw_mp h
            clear h
            obtain ⟨rfl, rfl, rfl⟩ := gw_tup hz
            have h := h2
            replace hq : ((zr_38 = 0 ∨ zr_38 = 1) → Q (some (.int zr_38)) Sp zm_39) := hq
            refine ⟨rfl, mc, ms, Nat.le_of_eq (Nat.zero_add mc), Nat.le_of_eq (Nat.zero_add ms), hpu ?_⟩
            replace hcc : 0 + mc ≤ mc := Nat.le_of_eq (Nat.zero_add mc)
            replace hss : 0 + ms ≤ ms := Nat.le_of_eq (Nat.zero_add ms)
            have kpa0_0 : gw_kd Sp a0 = 10 := ((hmo hS0) 0 _ rfl).1
            have rpa0_0_0 : gw_rf Sp a0 0 = a0 + 1 := ((hmo hS0) 0 _ rfl).2.2 (0, 1) (by decide)
            have kpa0_1 : gw_kd Sp (a0 + 1) = 3 := ((hmo hS0) 1 _ rfl).1
            have rpa0_1_8 : gw_rf Sp (a0 + 1) 8 = a0 + 20 := ((hmo hS0) 1 _ rfl).2.2 (8, 20) (by decide)
            have kpa0_20 : gw_kd Sp (a0 + 20) = 12 := ((hmo hS0) 20 _ rfl).1
            have lpa0_20 : gw_ln Sp (a0 + 20) = 2 := ((hmo hS0) 20 _ rfl).2.1
            simp only [gt_nil, true_and, eq_self, gt_aload_n, gt_rfk, gw_nth, gt_get_r, gt_get_i, gt_get_z, gt_iload_n, gt_ink, gt_iastore, gt_v0, gt_v1, gt_v2, gt_v3, gt_v4, gt_v5, gt_iconst, gt_iret, gt_retz, Option.toList, List.cons_append, List.nil_append, Nat.add_zero, kpa0_0, rpa0_0_0, kpa0_1, rpa0_1_8, kpa0_20, lpa0_20]
            obtain ⟨c_40, h⟩ := gw_ife h
            refine ⟨c_40, ?_⟩
            obtain ⟨μ_41, hμ_41, h⟩ := gw_lt h
            try rw [← hμ_41]
            obtain ⟨μ_43, e_44, h⟩ := gw_bnd h
            refine ⟨rfl, 0, 0, hcc, hss, ok_X3_dealOut (gw_sub (hmo hS0) 3 1 (by decide +kernel)) e_44 ?_⟩
            simp only [gt_nil, true_and, eq_self, gt_iconst, gt_iret, gt_retz, Option.toList, List.cons_append, List.nil_append, Nat.add_zero, kpa0_0, rpa0_0_0, kpa0_1, rpa0_1_8, kpa0_20, lpa0_20]
            obtain ⟨rfl, rfl⟩ := gw_inj2 h
            exact ⟨(Or.inr rfl), hcc, hss, hq (Or.inr rfl)⟩
          · replace h := gw_ifn h c_37
            refine hK _ _ _ _ _ _ _ ?_
            rw [fdX10_want_41]
            simp only [gt_nil, true_and, eq_self, gt_iconst, gt_iret, gt_retz, bkX10_want_41, ka0_0, ra0_0_0, ra0_0_1, ka0_1, ka0_83]
            obtain ⟨rfl, rfl, rfl⟩ := gw_inj3 h
            exact ⟨(Or.inl rfl), hcc, hss, hq (Or.inl rfl)⟩
      · replace h := gw_ifn2 (gw_c2_ne _ _) h c_31
        refine hK _ _ _ _ _ _ _ ?_
        rw [fdX10_want_20]
        simp only [gt_nil, true_and, eq_self, gt_iconst, gt_goto, bkX10_want_20, ka0_0, ra0_0_0, ra0_0_1, ka0_1, ka0_83]
        refine hK _ _ _ _ _ _ _ ?_
        rw [fdX10_want_25]
        simp only [gt_nil, true_and, eq_self, gt_istore_n, gw_set, gt_iload_n, gt_ink, gw_nth, gt_if, gt_iconst, gt_sipush, gt_s1_0, gt_s2_0, gt_s3_0, gt_s4_0, gt_s1_1, gt_s2_1, gt_s3_1, gt_s4_1, gt_acpy, bkX10_want_25, ka0_0, ra0_0_0, ra0_0_1, ka0_1, ka0_83]
        refine ⟨fun c_46 => ?_, fun c_46 => ?_⟩
        · replace h := gw_ifp h c_46
          refine hK _ _ _ _ _ _ _ ?_
          rw [fdX10_want_41]
          simp only [gt_nil, true_and, eq_self, gt_iconst, gt_iret, gt_retz, bkX10_want_41, ka0_0, ra0_0_0, ra0_0_1, ka0_1, ka0_83]
          obtain ⟨rfl, rfl, rfl⟩ := gw_inj3 h
          exact ⟨(Or.inl rfl), hcc, hss, hq (Or.inl rfl)⟩
        · replace h := gw_ifn h c_46
          obtain ⟨r_47, e_49, h⟩ := gw_bnd h
          refine ⟨rfl, 0, 0, hcc, hss, ok_X10_within e_49 ?_⟩
          intro hbr_47
          simp only [gt_nil, true_and, eq_self, gt_if, Option.toList, List.cons_append, List.nil_append, Nat.add_zero, ka0_0, ra0_0_0, ra0_0_1, ka0_1, ka0_83]
          refine ⟨fun c_51 => ?_, fun c_51 => ?_⟩
          · replace h := gw_ifp h c_51
            refine hK _ _ _ _ _ _ _ ?_
            rw [fdX10_want_43]
            simp only [gt_nil, true_and, eq_self, gt_aload_n, gt_rfk, gw_nth, gt_get_r, gt_get_i, gt_get_z, gt_v0, gt_v1, gt_v2, gt_v3, gt_v4, gt_v5, gt_iload_n, gt_ink, gt_iastore, gt_iconst, gt_iret, gt_retz, bkX10_want_43, ka0_0, ra0_0_0, ra0_0_1, ka0_1, ka0_83]
            obtain ⟨⟨zr_52, zm_53⟩, h2, hz⟩ := gw_mp h
            clear h
            obtain ⟨rfl, rfl, rfl⟩ := gw_tup hz
            have h := h2
            replace hq : ((zr_52 = 0 ∨ zr_52 = 1) → Q (some (.int zr_52)) Sp zm_53) := hq
            refine ⟨rfl, mc, ms, Nat.le_of_eq (Nat.zero_add mc), Nat.le_of_eq (Nat.zero_add ms), hpu ?_⟩
            replace hcc : 0 + mc ≤ mc := Nat.le_of_eq (Nat.zero_add mc)
            replace hss : 0 + ms ≤ ms := Nat.le_of_eq (Nat.zero_add ms)
            have kpa0_0 : gw_kd Sp a0 = 10 := ((hmo hS0) 0 _ rfl).1
            have rpa0_0_0 : gw_rf Sp a0 0 = a0 + 1 := ((hmo hS0) 0 _ rfl).2.2 (0, 1) (by decide)
            have kpa0_1 : gw_kd Sp (a0 + 1) = 3 := ((hmo hS0) 1 _ rfl).1
            have rpa0_1_8 : gw_rf Sp (a0 + 1) 8 = a0 + 20 := ((hmo hS0) 1 _ rfl).2.2 (8, 20) (by decide)
            have kpa0_20 : gw_kd Sp (a0 + 20) = 12 := ((hmo hS0) 20 _ rfl).1
            have lpa0_20 : gw_ln Sp (a0 + 20) = 2 := ((hmo hS0) 20 _ rfl).2.1
            simp only [gt_nil, true_and, eq_self, gt_aload_n, gt_rfk, gw_nth, gt_get_r, gt_get_i, gt_get_z, gt_iload_n, gt_ink, gt_iastore, gt_v0, gt_v1, gt_v2, gt_v3, gt_v4, gt_v5, gt_iconst, gt_iret, gt_retz, Option.toList, List.cons_append, List.nil_append, Nat.add_zero, kpa0_0, rpa0_0_0, kpa0_1, rpa0_1_8, kpa0_20, lpa0_20]
            obtain ⟨c_54, h⟩ := gw_ife h
            refine ⟨c_54, ?_⟩
            obtain ⟨μ_55, hμ_55, h⟩ := gw_lt h
            try rw [← hμ_55]
            obtain ⟨μ_57, e_58, h⟩ := gw_bnd h
            refine ⟨rfl, 0, 0, hcc, hss, ok_X3_dealOut (gw_sub (hmo hS0) 3 1 (by decide +kernel)) e_58 ?_⟩
            simp only [gt_nil, true_and, eq_self, gt_iconst, gt_iret, gt_retz, Option.toList, List.cons_append, List.nil_append, Nat.add_zero, kpa0_0, rpa0_0_0, kpa0_1, rpa0_1_8, kpa0_20, lpa0_20]
            obtain ⟨rfl, rfl⟩ := gw_inj2 h
            exact ⟨(Or.inr rfl), hcc, hss, hq (Or.inr rfl)⟩
          · replace h := gw_ifn h c_51
            refine hK _ _ _ _ _ _ _ ?_
            rw [fdX10_want_41]
            simp only [gt_nil, true_and, eq_self, gt_iconst, gt_iret, gt_retz, bkX10_want_41, ka0_0, ra0_0_0, ra0_0_1, ka0_1, ka0_83]
            obtain ⟨rfl, rfl, rfl⟩ := gw_inj3 h
            exact ⟨(Or.inl rfl), hcc, hss, hq (Or.inl rfl)⟩
def F_X10_touch_77 (n0 : Nat) (a0 : Nat) (s0 : Int32) (μ : gw_M) : Option (Int32 × gw_M) := (F_X3_dealOut n0 (a0 + 1) μ).bind (fun (μ_2 : gw_M) => some (s0, μ_2))
def F_X10_touch (n0 : Nat) (a0 : Nat) (v1 : Int32) (v2 : Int32) (v3 : Int32) (μ pu : gw_M) : Option (Int32 × gw_M × Bool) := (F_X10_isPage n0 v1 μ).bind (fun (r_1 : Int32) => (if r_1 = 0 then some ((-1), μ, false) else (F_X10_isWay n0 v2 μ).bind (fun (r_6 : Int32) => (if r_6 = 0 then some ((-1), μ, false) else (if ¬ v2 = 1 then (((if ¬ (pu (a0 + 1) 6) = 2 then (gw_bi (F_X3_touchByOuter n0 (a0 + 1) v1 v2 v3 pu) (fun (r_15 : Int32) (μ_16 : gw_M) => F_X10_touch_77 n0 a0 r_15 μ_16)) else (gw_bi (F_X3_touchByInner n0 (a0 + 1) v1 v2 v3 pu) (fun (r_19 : Int32) (μ_20 : gw_M) => F_X10_touch_77 n0 a0 r_19 μ_20)))).map (fun (z : Int32 × gw_M) => (z.1, z.2, true))) else (F_X10_within n0 v3 0 9999 μ).bind (fun (r_23 : Int32) => (if ¬ r_23 = 0 then (((if ¬ (pu (a0 + 1) 6) = 2 then (gw_bi (F_X3_touchByOuter n0 (a0 + 1) v1 v2 v3 pu) (fun (r_31 : Int32) (μ_32 : gw_M) => F_X10_touch_77 n0 a0 r_31 μ_32)) else (gw_bi (F_X3_touchByInner n0 (a0 + 1) v1 v2 v3 pu) (fun (r_35 : Int32) (μ_36 : gw_M) => F_X10_touch_77 n0 a0 r_35 μ_36)))).map (fun (z : Int32 × gw_M) => (z.1, z.2, true))) else some ((-1), μ, false))))))))
theorem B_X10_touch_77 {l : Launch} {x : gw_C} {d : Nat} {S : gw_S} {Q : Option Value → gw_S → gw_M → Prop} {K : Nat → gw_Kt} {mc ms cc ss : Nat} (hcc : cc ≤ mc) (hss : ss ≤ ms) (hK : gw_cl l x (d + 8) mc ms bsX10_touch Q K) {a0 : Nat} (hS0 : gw_sh S 10 a0) {n0 : Nat} {s0} {u1 u2 u3 u4 : Value} {μ : gw_M} {r μ'} (h : F_X10_touch_77 n0 a0 s0 μ = some (r, μ')) (hq : Q (some (.int r)) S μ') : K 77 [.ref a0, u1, u2, u3, u4] [.int s0] S μ cc ss := by
  have ka0_0 : gw_kd S a0 = 10 := (hS0 0 _ rfl).1
  have ra0_0_0 : gw_rf S a0 0 = a0 + 1 := (hS0 0 _ rfl).2.2 (0, 1) (by decide)
  have ka0_1 : gw_kd S (a0 + 1) = 3 := (hS0 1 _ rfl).1
  unfold F_X10_touch_77 at h
  refine hK _ _ _ _ _ _ _ ?_
  rw [fdX10_touch_77]
  simp only [gt_nil, true_and, eq_self, gt_istore, gw_set, gt_aload_n, gt_rfk, gw_nth, gt_get_r, gt_get_i, gt_get_z, gt_v0, gt_v1, gt_v2, gt_v3, gt_v4, gt_v5, gt_iload, gt_ink, gt_iret, gt_retz, bkX10_touch_77, ka0_0, ra0_0_0, ka0_1]
  obtain ⟨μ_2, e_3, h⟩ := gw_bnd h
  refine ⟨rfl, 0, 0, hcc, hss, ok_X3_dealOut (gw_sub hS0 3 1 (by decide +kernel)) e_3 ?_⟩
  simp only [gt_nil, true_and, eq_self, gt_iload, gt_ink, gw_nth, gt_iret, gt_retz, Option.toList, List.cons_append, List.nil_append, Nat.add_zero, ka0_0, ra0_0_0, ka0_1]
  obtain ⟨rfl, rfl⟩ := gw_inj2 h
  exact ⟨hcc, hss, hq⟩
theorem ok_X10_touch {l : Launch} {x : gw_C} {d mc ms : Nat} {S Sp : gw_S} {Q : Option Value → gw_S → gw_M → Prop} {v1 v2 v3 : Int32} {a0 n0 : Nat} {μ pu : gw_M} {r μ'} {b : Bool} (hmo : ∀ {c e : Nat}, gw_sh S c e → gw_sh Sp c e) (hpu : ∀ {Q1 : Option Value → gw_S → gw_M → Prop}, Q1 none Sp pu → gw_ok l x (d + 8) sgX5_push mc ms [.ref (a0 + 83), .ref (a0 + 1)] S μ Q1) (hS0 : gw_sh S 10 a0) (h : F_X10_touch n0 a0 v1 v2 v3 μ pu = some (r, μ', b)) (hq : Q (some (.int r)) (cond b Sp S) μ') : gw_ok l x (d + 9) sgX10_touch mc ms [.ref a0, .int v1, .int v2, .int v3] S μ Q := by
  refine gw_ok_of stX10_touch (lv0 := [.ref a0, .int v1, .int v2, .int v3, .retAddr 0]) (Nat.le_of_ble_eq_true rfl) rfl rfl ?_
  intro K hK
  have hcc : 0 ≤ mc := Nat.zero_le _
  have hss : 0 ≤ ms := Nat.zero_le _
  have ka0_0 : gw_kd S a0 = 10 := (hS0 0 _ rfl).1
  have ra0_0_0 : gw_rf S a0 0 = a0 + 1 := (hS0 0 _ rfl).2.2 (0, 1) (by decide)
  have ra0_0_1 : gw_rf S a0 1 = a0 + 83 := (hS0 0 _ rfl).2.2 (1, 83) (by decide)
  have ka0_83 : gw_kd S (a0 + 83) = 5 := (hS0 83 _ rfl).1
  unfold F_X10_touch at h
  refine hK _ _ _ _ _ _ _ ?_
  rw [fdX10_touch_0]
  simp only [gt_nil, true_and, eq_self, gt_iload_n, gt_ink, gw_nth, gt_s1_0, gt_s2_0, gt_s3_0, gt_s4_0, gt_s1_1, gt_s2_1, gt_s3_1, gt_s4_1, gt_acpy, gt_if, gt_iconst, gt_icmp, gt_sipush, bkX10_touch_0, ka0_0, ra0_0_0, ra0_0_1, ka0_83]
  obtain ⟨r_1, e_3, h⟩ := gw_bnd h
  refine ⟨rfl, 0, 0, hcc, hss, ok_X10_isPage e_3 ?_⟩
  intro hbr_1
  simp only [gt_nil, true_and, eq_self, gt_if, gt_iload_n, gt_ink, gw_nth, gt_s1_0, gt_s2_0, gt_s3_0, gt_s4_0, gt_s1_1, gt_s2_1, gt_s3_1, gt_s4_1, gt_acpy, gt_iconst, gt_icmp, gt_sipush, Option.toList, List.cons_append, List.nil_append, Nat.add_zero, ka0_0, ra0_0_0, ra0_0_1, ka0_83]
  refine ⟨fun c_5 => ?_, fun c_5 => ?_⟩
  · replace h := gw_ifp h c_5
    refine hK _ _ _ _ _ _ _ ?_
    rw [fdX10_touch_30]
    simp only [gt_nil, true_and, eq_self, gt_iconst, gt_iret, gt_retz, bkX10_touch_30, ka0_0, ra0_0_0, ra0_0_1, ka0_83]
    obtain ⟨rfl, rfl, rfl⟩ := gw_inj3 h
    exact ⟨hcc, hss, hq⟩
  · replace h := gw_ifn h c_5
    obtain ⟨r_6, e_8, h⟩ := gw_bnd h
    refine ⟨rfl, 0, 0, hcc, hss, ok_X10_isWay e_8 ?_⟩
    intro hbr_6
    simp only [gt_nil, true_and, eq_self, gt_if, gt_iload_n, gt_ink, gw_nth, gt_iconst, gt_icmp, gt_sipush, gt_s1_0, gt_s2_0, gt_s3_0, gt_s4_0, gt_s1_1, gt_s2_1, gt_s3_1, gt_s4_1, gt_acpy, Option.toList, List.cons_append, List.nil_append, Nat.add_zero, ka0_0, ra0_0_0, ra0_0_1, ka0_83]
    refine ⟨fun c_10 => ?_, fun c_10 => ?_⟩
    · replace h := gw_ifp h c_10
      refine hK _ _ _ _ _ _ _ ?_
      rw [fdX10_touch_30]
      simp only [gt_nil, true_and, eq_self, gt_iconst, gt_iret, gt_retz, bkX10_touch_30, ka0_0, ra0_0_0, ra0_0_1, ka0_83]
      obtain ⟨rfl, rfl, rfl⟩ := gw_inj3 h
      exact ⟨hcc, hss, hq⟩
    · replace h := gw_ifn h c_10
      refine ⟨fun c_11 => ?_, fun c_11 => ?_⟩
      · replace h := gw_ifp2 (gw_c2_ne _ _) h c_11
        refine hK _ _ _ _ _ _ _ ?_
        rw [fdX10_touch_32]
        simp only [gt_nil, true_and, eq_self, gt_aload_n, gt_rfk, gw_nth, gt_get_r, gt_get_i, gt_get_z, gt_v0, gt_v1, gt_v2, gt_v3, gt_v4, gt_v5, gt_iconst, gt_icmp, gt_iload_n, gt_ink, gt_goto, bkX10_touch_32, ka0_0, ra0_0_0, ra0_0_1, ka0_83]
        obtain ⟨⟨zr_12, zm_13⟩, h2, hz⟩ := gw_mp h
        clear h
        obtain ⟨rfl, rfl, rfl⟩ := gw_tup hz
        have h := h2
        replace hq : Q (some (.int zr_12)) Sp zm_13 := hq
        refine ⟨rfl, mc, ms, Nat.le_of_eq (Nat.zero_add mc), Nat.le_of_eq (Nat.zero_add ms), hpu ?_⟩
        replace hcc : 0 + mc ≤ mc := Nat.le_of_eq (Nat.zero_add mc)
        replace hss : 0 + ms ≤ ms := Nat.le_of_eq (Nat.zero_add ms)
        have kpa0_0 : gw_kd Sp a0 = 10 := ((hmo hS0) 0 _ rfl).1
        have rpa0_0_0 : gw_rf Sp a0 0 = a0 + 1 := ((hmo hS0) 0 _ rfl).2.2 (0, 1) (by decide)
        have kpa0_1 : gw_kd Sp (a0 + 1) = 3 := ((hmo hS0) 1 _ rfl).1
        simp only [gt_nil, true_and, eq_self, gt_aload_n, gt_rfk, gw_nth, gt_get_r, gt_get_i, gt_get_z, gt_iconst, gt_icmp, gt_iload_n, gt_ink, gt_v0, gt_v1, gt_v2, gt_v3, gt_v4, gt_v5, gt_goto, Option.toList, List.cons_append, List.nil_append, Nat.add_zero, kpa0_0, rpa0_0_0, kpa0_1]
        refine ⟨fun c_14 => ?_, fun c_14 => ?_⟩
        · replace h := gw_ifp2 (gw_c2_ne _ _) h c_14
          refine hK _ _ _ _ _ _ _ ?_
          rw [fdX10_touch_67]
          simp only [gt_nil, true_and, eq_self, gt_aload_n, gt_rfk, gw_nth, gt_get_r, gt_get_i, gt_get_z, gt_iload_n, gt_ink, gt_v0, gt_v1, gt_v2, gt_v3, gt_v4, gt_v5, bkX10_touch_67, kpa0_0, rpa0_0_0, kpa0_1]
          obtain ⟨r_15, μ_16, e_17, h⟩ := gw_bnd2 h
          refine ⟨rfl, 0, 0, hcc, hss, ok_X3_touchByOuter (gw_sub (hmo hS0) 3 1 (by decide +kernel)) e_17 ?_⟩
          simp only [gt_nil, true_and, eq_self, Option.toList, List.cons_append, List.nil_append, Nat.add_zero, kpa0_0, rpa0_0_0, kpa0_1]
          exact B_X10_touch_77 hcc hss hK (hmo hS0) h hq
        · replace h := gw_ifn2 (gw_c2_ne _ _) h c_14
          obtain ⟨r_19, μ_20, e_21, h⟩ := gw_bnd2 h
          refine ⟨rfl, 0, 0, hcc, hss, ok_X3_touchByInner (gw_sub (hmo hS0) 3 1 (by decide +kernel)) e_21 ?_⟩
          simp only [gt_nil, true_and, eq_self, gt_goto, Option.toList, List.cons_append, List.nil_append, Nat.add_zero, kpa0_0, rpa0_0_0, kpa0_1]
          exact B_X10_touch_77 hcc hss hK (hmo hS0) h hq
      · replace h := gw_ifn2 (gw_c2_ne _ _) h c_11
        obtain ⟨r_23, e_25, h⟩ := gw_bnd h
        refine ⟨rfl, 0, 0, hcc, hss, ok_X10_within e_25 ?_⟩
        intro hbr_23
        simp only [gt_nil, true_and, eq_self, gt_if, Option.toList, List.cons_append, List.nil_append, Nat.add_zero, ka0_0, ra0_0_0, ra0_0_1, ka0_83]
        refine ⟨fun c_27 => ?_, fun c_27 => ?_⟩
        · replace h := gw_ifp h c_27
          refine hK _ _ _ _ _ _ _ ?_
          rw [fdX10_touch_32]
          simp only [gt_nil, true_and, eq_self, gt_aload_n, gt_rfk, gw_nth, gt_get_r, gt_get_i, gt_get_z, gt_v0, gt_v1, gt_v2, gt_v3, gt_v4, gt_v5, gt_iconst, gt_icmp, gt_iload_n, gt_ink, gt_goto, bkX10_touch_32, ka0_0, ra0_0_0, ra0_0_1, ka0_83]
          obtain ⟨⟨zr_28, zm_29⟩, h2, hz⟩ := gw_mp h
          clear h
          obtain ⟨rfl, rfl, rfl⟩ := gw_tup hz
          have h := h2
          replace hq : Q (some (.int zr_28)) Sp zm_29 := hq
          refine ⟨rfl, mc, ms, Nat.le_of_eq (Nat.zero_add mc), Nat.le_of_eq (Nat.zero_add ms), hpu ?_⟩
          replace hcc : 0 + mc ≤ mc := Nat.le_of_eq (Nat.zero_add mc)
          replace hss : 0 + ms ≤ ms := Nat.le_of_eq (Nat.zero_add ms)
          have kpa0_0 : gw_kd Sp a0 = 10 := ((hmo hS0) 0 _ rfl).1
          have rpa0_0_0 : gw_rf Sp a0 0 = a0 + 1 := ((hmo hS0) 0 _ rfl).2.2 (0, 1) (by decide)
          have kpa0_1 : gw_kd Sp (a0 + 1) = 3 := ((hmo hS0) 1 _ rfl).1
          simp only [gt_nil, true_and, eq_self, gt_aload_n, gt_rfk, gw_nth, gt_get_r, gt_get_i, gt_get_z, gt_iconst, gt_icmp, gt_iload_n, gt_ink, gt_v0, gt_v1, gt_v2, gt_v3, gt_v4, gt_v5, gt_goto, Option.toList, List.cons_append, List.nil_append, Nat.add_zero, kpa0_0, rpa0_0_0, kpa0_1]
          refine ⟨fun c_30 => ?_, fun c_30 => ?_⟩
          · replace h := gw_ifp2 (gw_c2_ne _ _) h c_30
            refine hK _ _ _ _ _ _ _ ?_
            rw [fdX10_touch_67]
            simp only [gt_nil, true_and, eq_self, gt_aload_n, gt_rfk, gw_nth, gt_get_r, gt_get_i, gt_get_z, gt_iload_n, gt_ink, gt_v0, gt_v1, gt_v2, gt_v3, gt_v4, gt_v5, bkX10_touch_67, kpa0_0, rpa0_0_0, kpa0_1]
            obtain ⟨r_31, μ_32, e_33, h⟩ := gw_bnd2 h
            refine ⟨rfl, 0, 0, hcc, hss, ok_X3_touchByOuter (gw_sub (hmo hS0) 3 1 (by decide +kernel)) e_33 ?_⟩
            simp only [gt_nil, true_and, eq_self, Option.toList, List.cons_append, List.nil_append, Nat.add_zero, kpa0_0, rpa0_0_0, kpa0_1]
            exact B_X10_touch_77 hcc hss hK (hmo hS0) h hq
          · replace h := gw_ifn2 (gw_c2_ne _ _) h c_30
            obtain ⟨r_35, μ_36, e_37, h⟩ := gw_bnd2 h
            refine ⟨rfl, 0, 0, hcc, hss, ok_X3_touchByInner (gw_sub (hmo hS0) 3 1 (by decide +kernel)) e_37 ?_⟩
            simp only [gt_nil, true_and, eq_self, gt_goto, Option.toList, List.cons_append, List.nil_append, Nat.add_zero, kpa0_0, rpa0_0_0, kpa0_1]
            exact B_X10_touch_77 hcc hss hK (hmo hS0) h hq
        · replace h := gw_ifn h c_27
          refine hK _ _ _ _ _ _ _ ?_
          rw [fdX10_touch_30]
          simp only [gt_nil, true_and, eq_self, gt_iconst, gt_iret, gt_retz, bkX10_touch_30, ka0_0, ra0_0_0, ra0_0_1, ka0_83]
          obtain ⟨rfl, rfl, rfl⟩ := gw_inj3 h
          exact ⟨hcc, hss, hq⟩
def F_X10_isEvent (n0 : Nat) (v0 : Int32) (μ : gw_M) : Option (Int32) := (F_X10_within n0 v0 0 7 μ).bind (fun (r_1 : Int32) => some r_1)
theorem ok_X10_isEvent {l : Launch} {x : gw_C} {d : Nat} {S : gw_S} {Q : Option Value → gw_S → gw_M → Prop} {v0 : Int32} {n0 : Nat} {μ : gw_M} {r} (h : F_X10_isEvent n0 v0 μ = some r) (hq : ((r = 0 ∨ r = 1) → Q (some (.int r)) S μ)) : gw_ok l x (d + 2) sgX10_isEvent 0 0 [.int v0] S μ Q := by
  refine gw_ok_of stX10_isEvent (lv0 := [.int v0]) (Nat.le_of_ble_eq_true rfl) rfl rfl ?_
  intro K hK
  have hcc : 0 ≤ 0 := Nat.zero_le _
  have hss : 0 ≤ 0 := Nat.zero_le _
  unfold F_X10_isEvent at h
  refine hK _ _ _ _ _ _ _ ?_
  rw [fdX10_isEvent_0]
  simp only [gt_nil, true_and, eq_self, gt_iload_n, gt_ink, gw_nth, gt_iconst, gt_bipush, gt_s1_0, gt_s2_0, gt_s3_0, gt_s4_0, gt_s1_1, gt_s2_1, gt_s3_1, gt_s4_1, gt_acpy, gt_iret, gt_retz, bkX10_isEvent_0]
  obtain ⟨r_1, e_3, h⟩ := gw_bnd h
  refine ⟨rfl, 0, 0, hcc, hss, ok_X10_within e_3 ?_⟩
  intro hbr_1
  simp only [gt_nil, true_and, eq_self, gt_iret, gt_retz, Option.toList, List.cons_append, List.nil_append, Nat.add_zero]
  obtain rfl := gw_inj1 h
  exact ⟨hbr_1, hcc, hss, hq hbr_1⟩
def F_X10_event_50 (n0 : Nat) (a0 : Nat) (s0 : Int32) (μ : gw_M) : Option (Int32 × gw_M) := (F_X3_dealOut n0 (a0 + 1) μ).bind (fun (μ_2 : gw_M) => some (s0, μ_2))
def F_X10_event (n0 : Nat) (a0 : Nat) (v1 : Int32) (μ pu : gw_M) : Option (Int32 × gw_M × Bool) := (F_X10_isEvent n0 v1 μ).bind (fun (r_1 : Int32) => (if ¬ r_1 = 0 then (((if ¬ (pu (a0 + 1) 6) = 2 then (gw_bi (F_X3_eventOfOuter n0 (a0 + 1) v1 pu) (fun (r_9 : Int32) (μ_10 : gw_M) => F_X10_event_50 n0 a0 r_9 μ_10)) else (gw_bi (F_X3_eventOfInner n0 (a0 + 1) v1 pu) (fun (r_13 : Int32) (μ_14 : gw_M) => F_X10_event_50 n0 a0 r_13 μ_14)))).map (fun (z : Int32 × gw_M) => (z.1, z.2, true))) else some ((-1), μ, false)))
theorem B_X10_event_50 {l : Launch} {x : gw_C} {d : Nat} {S : gw_S} {Q : Option Value → gw_S → gw_M → Prop} {K : Nat → gw_Kt} {mc ms cc ss : Nat} (hcc : cc ≤ mc) (hss : ss ≤ ms) (hK : gw_cl l x (d + 8) mc ms bsX10_event Q K) {a0 : Nat} (hS0 : gw_sh S 10 a0) {n0 : Nat} {s0} {u1 u2 : Value} {μ : gw_M} {r μ'} (h : F_X10_event_50 n0 a0 s0 μ = some (r, μ')) (hq : Q (some (.int r)) S μ') : K 50 [.ref a0, u1, u2] [.int s0] S μ cc ss := by
  have ka0_0 : gw_kd S a0 = 10 := (hS0 0 _ rfl).1
  have ra0_0_0 : gw_rf S a0 0 = a0 + 1 := (hS0 0 _ rfl).2.2 (0, 1) (by decide)
  have ka0_1 : gw_kd S (a0 + 1) = 3 := (hS0 1 _ rfl).1
  unfold F_X10_event_50 at h
  refine hK _ _ _ _ _ _ _ ?_
  rw [fdX10_event_50]
  simp only [gt_nil, true_and, eq_self, gt_istore_n, gw_set, gt_aload_n, gt_rfk, gw_nth, gt_get_r, gt_get_i, gt_get_z, gt_v0, gt_v1, gt_v2, gt_v3, gt_v4, gt_v5, gt_iload_n, gt_ink, gt_iret, gt_retz, bkX10_event_50, ka0_0, ra0_0_0, ka0_1]
  obtain ⟨μ_2, e_3, h⟩ := gw_bnd h
  refine ⟨rfl, 0, 0, hcc, hss, ok_X3_dealOut (gw_sub hS0 3 1 (by decide +kernel)) e_3 ?_⟩
  simp only [gt_nil, true_and, eq_self, gt_iload_n, gt_ink, gw_nth, gt_iret, gt_retz, Option.toList, List.cons_append, List.nil_append, Nat.add_zero, ka0_0, ra0_0_0, ka0_1]
  obtain ⟨rfl, rfl⟩ := gw_inj2 h
  exact ⟨hcc, hss, hq⟩
theorem ok_X10_event {l : Launch} {x : gw_C} {d mc ms : Nat} {S Sp : gw_S} {Q : Option Value → gw_S → gw_M → Prop} {v1 : Int32} {a0 n0 : Nat} {μ pu : gw_M} {r μ'} {b : Bool} (hmo : ∀ {c e : Nat}, gw_sh S c e → gw_sh Sp c e) (hpu : ∀ {Q1 : Option Value → gw_S → gw_M → Prop}, Q1 none Sp pu → gw_ok l x (d + 8) sgX5_push mc ms [.ref (a0 + 83), .ref (a0 + 1)] S μ Q1) (hS0 : gw_sh S 10 a0) (h : F_X10_event n0 a0 v1 μ pu = some (r, μ', b)) (hq : Q (some (.int r)) (cond b Sp S) μ') : gw_ok l x (d + 9) sgX10_event mc ms [.ref a0, .int v1] S μ Q := by
  refine gw_ok_of stX10_event (lv0 := [.ref a0, .int v1, .retAddr 0]) (Nat.le_of_ble_eq_true rfl) rfl rfl ?_
  intro K hK
  have hcc : 0 ≤ mc := Nat.zero_le _
  have hss : 0 ≤ ms := Nat.zero_le _
  have ka0_0 : gw_kd S a0 = 10 := (hS0 0 _ rfl).1
  have ra0_0_0 : gw_rf S a0 0 = a0 + 1 := (hS0 0 _ rfl).2.2 (0, 1) (by decide)
  have ra0_0_1 : gw_rf S a0 1 = a0 + 83 := (hS0 0 _ rfl).2.2 (1, 83) (by decide)
  have ka0_83 : gw_kd S (a0 + 83) = 5 := (hS0 83 _ rfl).1
  unfold F_X10_event at h
  refine hK _ _ _ _ _ _ _ ?_
  rw [fdX10_event_0]
  simp only [gt_nil, true_and, eq_self, gt_iload_n, gt_ink, gw_nth, gt_s1_0, gt_s2_0, gt_s3_0, gt_s4_0, gt_s1_1, gt_s2_1, gt_s3_1, gt_s4_1, gt_acpy, gt_if, gt_iconst, gt_iret, gt_retz, bkX10_event_0, ka0_0, ra0_0_0, ra0_0_1, ka0_83]
  obtain ⟨r_1, e_3, h⟩ := gw_bnd h
  refine ⟨rfl, 0, 0, hcc, hss, ok_X10_isEvent e_3 ?_⟩
  intro hbr_1
  simp only [gt_nil, true_and, eq_self, gt_if, gt_iconst, gt_iret, gt_retz, Option.toList, List.cons_append, List.nil_append, Nat.add_zero, ka0_0, ra0_0_0, ra0_0_1, ka0_83]
  refine ⟨fun c_5 => ?_, fun c_5 => ?_⟩
  · replace h := gw_ifp h c_5
    refine hK _ _ _ _ _ _ _ ?_
    rw [fdX10_event_9]
    simp only [gt_nil, true_and, eq_self, gt_aload_n, gt_rfk, gw_nth, gt_get_r, gt_get_i, gt_get_z, gt_v0, gt_v1, gt_v2, gt_v3, gt_v4, gt_v5, gt_iconst, gt_icmp, gt_iload_n, gt_ink, gt_goto, bkX10_event_9, ka0_0, ra0_0_0, ra0_0_1, ka0_83]
    obtain ⟨⟨zr_6, zm_7⟩, h2, hz⟩ := gw_mp h
    clear h
    obtain ⟨rfl, rfl, rfl⟩ := gw_tup hz
    have h := h2
    replace hq : Q (some (.int zr_6)) Sp zm_7 := hq
    refine ⟨rfl, mc, ms, Nat.le_of_eq (Nat.zero_add mc), Nat.le_of_eq (Nat.zero_add ms), hpu ?_⟩
    replace hcc : 0 + mc ≤ mc := Nat.le_of_eq (Nat.zero_add mc)
    replace hss : 0 + ms ≤ ms := Nat.le_of_eq (Nat.zero_add ms)
    have kpa0_0 : gw_kd Sp a0 = 10 := ((hmo hS0) 0 _ rfl).1
    have rpa0_0_0 : gw_rf Sp a0 0 = a0 + 1 := ((hmo hS0) 0 _ rfl).2.2 (0, 1) (by decide)
    have kpa0_1 : gw_kd Sp (a0 + 1) = 3 := ((hmo hS0) 1 _ rfl).1
    simp only [gt_nil, true_and, eq_self, gt_aload_n, gt_rfk, gw_nth, gt_get_r, gt_get_i, gt_get_z, gt_iconst, gt_icmp, gt_iload_n, gt_ink, gt_v0, gt_v1, gt_v2, gt_v3, gt_v4, gt_v5, gt_goto, Option.toList, List.cons_append, List.nil_append, Nat.add_zero, kpa0_0, rpa0_0_0, kpa0_1]
    refine ⟨fun c_8 => ?_, fun c_8 => ?_⟩
    · replace h := gw_ifp2 (gw_c2_ne _ _) h c_8
      refine hK _ _ _ _ _ _ _ ?_
      rw [fdX10_event_42]
      simp only [gt_nil, true_and, eq_self, gt_aload_n, gt_rfk, gw_nth, gt_get_r, gt_get_i, gt_get_z, gt_iload_n, gt_ink, gt_v0, gt_v1, gt_v2, gt_v3, gt_v4, gt_v5, bkX10_event_42, kpa0_0, rpa0_0_0, kpa0_1]
      obtain ⟨r_9, μ_10, e_11, h⟩ := gw_bnd2 h
      refine ⟨rfl, 0, 0, hcc, hss, ok_X3_eventOfOuter (gw_sub (hmo hS0) 3 1 (by decide +kernel)) e_11 ?_⟩
      simp only [gt_nil, true_and, eq_self, Option.toList, List.cons_append, List.nil_append, Nat.add_zero, kpa0_0, rpa0_0_0, kpa0_1]
      exact B_X10_event_50 hcc hss hK (hmo hS0) h hq
    · replace h := gw_ifn2 (gw_c2_ne _ _) h c_8
      obtain ⟨r_13, μ_14, e_15, h⟩ := gw_bnd2 h
      refine ⟨rfl, 0, 0, hcc, hss, ok_X3_eventOfInner (gw_sub (hmo hS0) 3 1 (by decide +kernel)) e_15 ?_⟩
      simp only [gt_nil, true_and, eq_self, gt_goto, Option.toList, List.cons_append, List.nil_append, Nat.add_zero, kpa0_0, rpa0_0_0, kpa0_1]
      exact B_X10_event_50 hcc hss hK (hmo hS0) h hq
  · replace h := gw_ifn h c_5
    obtain ⟨rfl, rfl, rfl⟩ := gw_inj3 h
    exact ⟨hcc, hss, hq⟩
def F_X10_enter (n0 : Nat) (a0 : Nat) (μ pu : gw_M) : Option (Int32 × gw_M × Bool) := (if (μ (a0 + 1) 6) = 1 then (((F_X3_enterInner n0 (a0 + 1) pu).bind (fun (μ_5 : gw_M) => (F_X3_dealOut n0 (a0 + 1) μ_5).bind (fun (μ_9 : gw_M) => some (1, μ_9)))).map (fun (z : Int32 × gw_M) => (z.1, z.2, true))) else some (0, μ, false))
theorem ok_X10_enter {l : Launch} {x : gw_C} {d mc ms : Nat} {S Sp : gw_S} {Q : Option Value → gw_S → gw_M → Prop} {a0 n0 : Nat} {μ pu : gw_M} {r μ'} {b : Bool} (hmo : ∀ {c e : Nat}, gw_sh S c e → gw_sh Sp c e) (hpu : ∀ {Q1 : Option Value → gw_S → gw_M → Prop}, Q1 none Sp pu → gw_ok l x (d + 8) sgX5_push mc ms [.ref (a0 + 83), .ref (a0 + 1)] S μ Q1) (hS0 : gw_sh S 10 a0) (h : F_X10_enter n0 a0 μ pu = some (r, μ', b)) (hq : ((r = 0 ∨ r = 1) → Q (some (.int r)) (cond b Sp S) μ')) : gw_ok l x (d + 9) sgX10_enter mc ms [.ref a0] S μ Q := by
  refine gw_ok_of stX10_enter (lv0 := [.ref a0]) (Nat.le_of_ble_eq_true rfl) rfl rfl ?_
  intro K hK
  have hcc : 0 ≤ mc := Nat.zero_le _
  have hss : 0 ≤ ms := Nat.zero_le _
  have ka0_0 : gw_kd S a0 = 10 := (hS0 0 _ rfl).1
  have ra0_0_0 : gw_rf S a0 0 = a0 + 1 := (hS0 0 _ rfl).2.2 (0, 1) (by decide)
  have ra0_0_1 : gw_rf S a0 1 = a0 + 83 := (hS0 0 _ rfl).2.2 (1, 83) (by decide)
  have ka0_1 : gw_kd S (a0 + 1) = 3 := (hS0 1 _ rfl).1
  have ka0_83 : gw_kd S (a0 + 83) = 5 := (hS0 83 _ rfl).1
  unfold F_X10_enter at h
  refine hK _ _ _ _ _ _ _ ?_
  rw [fdX10_enter_0]
  simp only [gt_nil, true_and, eq_self, gt_aload_n, gt_rfk, gw_nth, gt_get_r, gt_get_i, gt_get_z, gt_iconst, gt_icmp, gt_iret, gt_retz, bkX10_enter_0, ka0_0, ra0_0_0, ra0_0_1, ka0_1, ka0_83]
  refine ⟨fun c_1 => ?_, fun c_1 => ?_⟩
  · replace h := gw_ifp2 (gw_c2_eq _ _) h c_1
    refine hK _ _ _ _ _ _ _ ?_
    rw [fdX10_enter_13]
    simp only [gt_nil, true_and, eq_self, gt_aload_n, gt_rfk, gw_nth, gt_get_r, gt_get_i, gt_get_z, gt_v0, gt_v1, gt_v2, gt_v3, gt_v4, gt_v5, gt_iconst, gt_iret, gt_retz, bkX10_enter_13, ka0_0, ra0_0_0, ra0_0_1, ka0_1, ka0_83]
    obtain ⟨⟨zr_2, zm_3⟩, h2, hz⟩ := gw_mp h
    clear h
    obtain ⟨rfl, rfl, rfl⟩ := gw_tup hz
    have h := h2
    replace hq : ((zr_2 = 0 ∨ zr_2 = 1) → Q (some (.int zr_2)) Sp zm_3) := hq
    refine ⟨rfl, mc, ms, Nat.le_of_eq (Nat.zero_add mc), Nat.le_of_eq (Nat.zero_add ms), hpu ?_⟩
    replace hcc : 0 + mc ≤ mc := Nat.le_of_eq (Nat.zero_add mc)
    replace hss : 0 + ms ≤ ms := Nat.le_of_eq (Nat.zero_add ms)
    have kpa0_0 : gw_kd Sp a0 = 10 := ((hmo hS0) 0 _ rfl).1
    have rpa0_0_0 : gw_rf Sp a0 0 = a0 + 1 := ((hmo hS0) 0 _ rfl).2.2 (0, 1) (by decide)
    have kpa0_1 : gw_kd Sp (a0 + 1) = 3 := ((hmo hS0) 1 _ rfl).1
    simp only [gt_nil, true_and, eq_self, gt_aload_n, gt_rfk, gw_nth, gt_get_r, gt_get_i, gt_get_z, gt_v0, gt_v1, gt_v2, gt_v3, gt_v4, gt_v5, gt_iconst, gt_iret, gt_retz, Option.toList, List.cons_append, List.nil_append, Nat.add_zero, kpa0_0, rpa0_0_0, kpa0_1]
    obtain ⟨μ_5, e_6, h⟩ := gw_bnd h
    refine ⟨rfl, 0, 0, hcc, hss, ok_X3_enterInner (gw_sub (hmo hS0) 3 1 (by decide +kernel)) e_6 ?_⟩
    simp only [gt_nil, true_and, eq_self, gt_aload_n, gt_rfk, gw_nth, gt_get_r, gt_get_i, gt_get_z, gt_v0, gt_v1, gt_v2, gt_v3, gt_v4, gt_v5, gt_iconst, gt_iret, gt_retz, Option.toList, List.cons_append, List.nil_append, Nat.add_zero, kpa0_0, rpa0_0_0, kpa0_1]
    obtain ⟨μ_9, e_10, h⟩ := gw_bnd h
    refine ⟨rfl, 0, 0, hcc, hss, ok_X3_dealOut (gw_sub (hmo hS0) 3 1 (by decide +kernel)) e_10 ?_⟩
    simp only [gt_nil, true_and, eq_self, gt_iconst, gt_iret, gt_retz, Option.toList, List.cons_append, List.nil_append, Nat.add_zero, kpa0_0, rpa0_0_0, kpa0_1]
    obtain ⟨rfl, rfl⟩ := gw_inj2 h
    exact ⟨(Or.inr rfl), hcc, hss, hq (Or.inr rfl)⟩
  · replace h := gw_ifn2 (gw_c2_eq _ _) h c_1
    obtain ⟨rfl, rfl, rfl⟩ := gw_inj3 h
    exact ⟨(Or.inl rfl), hcc, hss, hq (Or.inl rfl)⟩
def F_X10_isVector (n0 : Nat) (v0 : Int32) (μ : gw_M) : Option (Int32) := (F_X10_within n0 v0 0 15 μ).bind (fun (r_1 : Int32) => some r_1)
theorem ok_X10_isVector {l : Launch} {x : gw_C} {d : Nat} {S : gw_S} {Q : Option Value → gw_S → gw_M → Prop} {v0 : Int32} {n0 : Nat} {μ : gw_M} {r} (h : F_X10_isVector n0 v0 μ = some r) (hq : ((r = 0 ∨ r = 1) → Q (some (.int r)) S μ)) : gw_ok l x (d + 2) sgX10_isVector 0 0 [.int v0] S μ Q := by
  refine gw_ok_of stX10_isVector (lv0 := [.int v0]) (Nat.le_of_ble_eq_true rfl) rfl rfl ?_
  intro K hK
  have hcc : 0 ≤ 0 := Nat.zero_le _
  have hss : 0 ≤ 0 := Nat.zero_le _
  unfold F_X10_isVector at h
  refine hK _ _ _ _ _ _ _ ?_
  rw [fdX10_isVector_0]
  simp only [gt_nil, true_and, eq_self, gt_iload_n, gt_ink, gw_nth, gt_iconst, gt_bipush, gt_s1_0, gt_s2_0, gt_s3_0, gt_s4_0, gt_s1_1, gt_s2_1, gt_s3_1, gt_s4_1, gt_acpy, gt_iret, gt_retz, bkX10_isVector_0]
  obtain ⟨r_1, e_3, h⟩ := gw_bnd h
  refine ⟨rfl, 0, 0, hcc, hss, ok_X10_within e_3 ?_⟩
  intro hbr_1
  simp only [gt_nil, true_and, eq_self, gt_iret, gt_retz, Option.toList, List.cons_append, List.nil_append, Nat.add_zero]
  obtain rfl := gw_inj1 h
  exact ⟨hbr_1, hcc, hss, hq hbr_1⟩
def F_X10_send (n0 : Nat) (a0 : Nat) (v1 : Int32) (v2 : Int32) (μ pu : gw_M) : Option (Int32 × gw_M × Bool) := (if v1 = 1 then (if (1 : Int32) = 0 then some (0, μ, false) else (F_X10_isVector n0 v2 μ).bind (fun (r_3 : Int32) => (if r_3 = 0 then some (0, μ, false) else (F_X3_guest n0 (a0 + 1) v1 μ).bind (fun (r_8 : Nat) => (F_X0_awaits n0 r_8 v2 μ).bind (fun (r_12 : Int32) => (if r_12 = 0 then (((F_X3_guest n0 (a0 + 1) v1 pu).bind (fun (r_19 : Nat) => (F_X0_await n0 r_19 v2 (pu (a0 + 1) 7) pu).bind (fun (μ_24 : gw_M) => (F_X3_dealOut n0 (a0 + 1) μ_24).bind (fun (μ_28 : gw_M) => some (1, μ_28))))).map (fun (z : Int32 × gw_M) => (z.1, z.2, true))) else some (0, μ, false))))))) else (if ¬ v1 = 2 then (if (0 : Int32) = 0 then some (0, μ, false) else (F_X10_isVector n0 v2 μ).bind (fun (r_33 : Int32) => (if r_33 = 0 then some (0, μ, false) else (F_X3_guest n0 (a0 + 1) v1 μ).bind (fun (r_38 : Nat) => (F_X0_awaits n0 r_38 v2 μ).bind (fun (r_42 : Int32) => (if r_42 = 0 then (((F_X3_guest n0 (a0 + 1) v1 pu).bind (fun (r_49 : Nat) => (F_X0_await n0 r_49 v2 (pu (a0 + 1) 7) pu).bind (fun (μ_54 : gw_M) => (F_X3_dealOut n0 (a0 + 1) μ_54).bind (fun (μ_58 : gw_M) => some (1, μ_58))))).map (fun (z : Int32 × gw_M) => (z.1, z.2, true))) else some (0, μ, false))))))) else (if ¬ (μ (a0 + 1) 6) = 1 then (if (0 : Int32) = 0 then some (0, μ, false) else (F_X10_isVector n0 v2 μ).bind (fun (r_63 : Int32) => (if r_63 = 0 then some (0, μ, false) else (F_X3_guest n0 (a0 + 1) v1 μ).bind (fun (r_68 : Nat) => (F_X0_awaits n0 r_68 v2 μ).bind (fun (r_72 : Int32) => (if r_72 = 0 then (((F_X3_guest n0 (a0 + 1) v1 pu).bind (fun (r_79 : Nat) => (F_X0_await n0 r_79 v2 (pu (a0 + 1) 7) pu).bind (fun (μ_84 : gw_M) => (F_X3_dealOut n0 (a0 + 1) μ_84).bind (fun (μ_88 : gw_M) => some (1, μ_88))))).map (fun (z : Int32 × gw_M) => (z.1, z.2, true))) else some (0, μ, false))))))) else (if (1 : Int32) = 0 then some (0, μ, false) else (F_X10_isVector n0 v2 μ).bind (fun (r_92 : Int32) => (if r_92 = 0 then some (0, μ, false) else (F_X3_guest n0 (a0 + 1) v1 μ).bind (fun (r_97 : Nat) => (F_X0_awaits n0 r_97 v2 μ).bind (fun (r_101 : Int32) => (if r_101 = 0 then (((F_X3_guest n0 (a0 + 1) v1 pu).bind (fun (r_108 : Nat) => (F_X0_await n0 r_108 v2 (pu (a0 + 1) 7) pu).bind (fun (μ_113 : gw_M) => (F_X3_dealOut n0 (a0 + 1) μ_113).bind (fun (μ_117 : gw_M) => some (1, μ_117))))).map (fun (z : Int32 × gw_M) => (z.1, z.2, true))) else some (0, μ, false))))))))))
theorem ok_X10_send {l : Launch} {x : gw_C} {d mc ms : Nat} {S Sp : gw_S} {Q : Option Value → gw_S → gw_M → Prop} {v1 v2 : Int32} {a0 n0 : Nat} {μ pu : gw_M} {r μ'} {b : Bool} (hmo : ∀ {c e : Nat}, gw_sh S c e → gw_sh Sp c e) (hpu : ∀ {Q1 : Option Value → gw_S → gw_M → Prop}, Q1 none Sp pu → gw_ok l x (d + 8) sgX5_push mc ms [.ref (a0 + 83), .ref (a0 + 1)] S μ Q1) (hS0 : gw_sh S 10 a0) (h : F_X10_send n0 a0 v1 v2 μ pu = some (r, μ', b)) (hq : ((r = 0 ∨ r = 1) → Q (some (.int r)) (cond b Sp S) μ')) : gw_ok l x (d + 9) sgX10_send mc ms [.ref a0, .int v1, .int v2] S μ Q := by
  refine gw_ok_of stX10_send (lv0 := [.ref a0, .int v1, .int v2, .retAddr 0]) (Nat.le_of_ble_eq_true rfl) rfl rfl ?_
  intro K hK
  have hcc : 0 ≤ mc := Nat.zero_le _
  have hss : 0 ≤ ms := Nat.zero_le _
  have ka0_0 : gw_kd S a0 = 10 := (hS0 0 _ rfl).1
  have ra0_0_0 : gw_rf S a0 0 = a0 + 1 := (hS0 0 _ rfl).2.2 (0, 1) (by decide)
  have ra0_0_1 : gw_rf S a0 1 = a0 + 83 := (hS0 0 _ rfl).2.2 (1, 83) (by decide)
  have ka0_1 : gw_kd S (a0 + 1) = 3 := (hS0 1 _ rfl).1
  have ka0_83 : gw_kd S (a0 + 83) = 5 := (hS0 83 _ rfl).1
  unfold F_X10_send at h
  refine hK _ _ _ _ _ _ _ ?_
  rw [fdX10_send_0]
  simp only [gt_nil, true_and, eq_self, gt_iload_n, gt_ink, gw_nth, gt_iconst, gt_icmp, gt_aload_n, gt_rfk, gt_get_r, gt_get_i, gt_get_z, bkX10_send_0, ka0_0, ra0_0_0, ra0_0_1, ka0_1, ka0_83]
  refine ⟨fun c_1 => ?_, fun c_1 => ?_⟩
  · replace h := gw_ifp2 (gw_c2_eq _ _) h c_1
    refine hK _ _ _ _ _ _ _ ?_
    rw [fdX10_send_21]
    simp only [gt_nil, true_and, eq_self, gt_iconst, gt_goto, bkX10_send_21, ka0_0, ra0_0_0, ra0_0_1, ka0_1, ka0_83]
    refine hK _ _ _ _ _ _ _ ?_
    rw [fdX10_send_26]
    simp only [gt_nil, true_and, eq_self, gt_istore_n, gw_set, gt_iload_n, gt_ink, gw_nth, gt_if, gt_s1_0, gt_s2_0, gt_s3_0, gt_s4_0, gt_s1_1, gt_s2_1, gt_s3_1, gt_s4_1, gt_acpy, gt_aload_n, gt_rfk, gt_get_r, gt_get_i, gt_get_z, gt_v0, gt_v1, gt_v2, gt_v3, gt_v4, gt_v5, bkX10_send_26, ka0_0, ra0_0_0, ra0_0_1, ka0_1, ka0_83]
    refine ⟨fun c_2 => ?_, fun c_2 => ?_⟩
    · replace h := gw_ifp h c_2
      refine hK _ _ _ _ _ _ _ ?_
      rw [fdX10_send_53]
      simp only [gt_nil, true_and, eq_self, gt_iconst, gt_iret, gt_retz, bkX10_send_53, ka0_0, ra0_0_0, ra0_0_1, ka0_1, ka0_83]
      obtain ⟨rfl, rfl, rfl⟩ := gw_inj3 h
      exact ⟨(Or.inl rfl), hcc, hss, hq (Or.inl rfl)⟩
    · replace h := gw_ifn h c_2
      obtain ⟨r_3, e_5, h⟩ := gw_bnd h
      refine ⟨rfl, 0, 0, hcc, hss, ok_X10_isVector e_5 ?_⟩
      intro hbr_3
      simp only [gt_nil, true_and, eq_self, gt_if, gt_aload_n, gt_rfk, gw_nth, gt_get_r, gt_get_i, gt_get_z, gt_iload_n, gt_ink, gt_v0, gt_v1, gt_v2, gt_v3, gt_v4, gt_v5, Option.toList, List.cons_append, List.nil_append, Nat.add_zero, ka0_0, ra0_0_0, ra0_0_1, ka0_1, ka0_83]
      refine ⟨fun c_7 => ?_, fun c_7 => ?_⟩
      · replace h := gw_ifp h c_7
        refine hK _ _ _ _ _ _ _ ?_
        rw [fdX10_send_53]
        simp only [gt_nil, true_and, eq_self, gt_iconst, gt_iret, gt_retz, bkX10_send_53, ka0_0, ra0_0_0, ra0_0_1, ka0_1, ka0_83]
        obtain ⟨rfl, rfl, rfl⟩ := gw_inj3 h
        exact ⟨(Or.inl rfl), hcc, hss, hq (Or.inl rfl)⟩
      · replace h := gw_ifn h c_7
        obtain ⟨r_8, e_10, h⟩ := gw_bnd h
        refine ⟨rfl, 0, 0, hcc, hss, ok_X3_guest (gw_sub hS0 3 1 (by decide +kernel)) e_10 ?_⟩
        intro hsr_8
        have kr_8_0 : gw_kd S r_8 = 0 := (hsr_8 0 _ rfl).1
        simp only [gt_nil, true_and, eq_self, gt_iload_n, gt_ink, gw_nth, gt_v0, gt_v1, gt_v2, gt_v3, gt_v4, gt_v5, gt_if, Option.toList, List.cons_append, List.nil_append, Nat.add_zero, ka0_0, ra0_0_0, ra0_0_1, ka0_1, ka0_83, kr_8_0]
        obtain ⟨r_12, e_14, h⟩ := gw_bnd h
        refine ⟨rfl, 0, 0, hcc, hss, ok_X0_awaits hsr_8 e_14 ?_⟩
        intro hbr_12
        simp only [gt_nil, true_and, eq_self, gt_if, Option.toList, List.cons_append, List.nil_append, Nat.add_zero, ka0_0, ra0_0_0, ra0_0_1, ka0_1, ka0_83, kr_8_0]
        refine ⟨fun c_16 => ?_, fun c_16 => ?_⟩
        · replace h := gw_ifp h c_16
          refine hK _ _ _ _ _ _ _ ?_
          rw [fdX10_send_55]
          simp only [gt_nil, true_and, eq_self, gt_aload_n, gt_rfk, gw_nth, gt_get_r, gt_get_i, gt_get_z, gt_v0, gt_v1, gt_v2, gt_v3, gt_v4, gt_v5, gt_iload_n, gt_ink, gt_iconst, gt_iret, gt_retz, bkX10_send_55, ka0_0, ra0_0_0, ra0_0_1, ka0_1, ka0_83, kr_8_0]
          obtain ⟨⟨zr_17, zm_18⟩, h2, hz⟩ := gw_mp h
          clear h
          obtain ⟨rfl, rfl, rfl⟩ := gw_tup hz
          have h := h2
          replace hq : ((zr_17 = 0 ∨ zr_17 = 1) → Q (some (.int zr_17)) Sp zm_18) := hq
          refine ⟨rfl, mc, ms, Nat.le_of_eq (Nat.zero_add mc), Nat.le_of_eq (Nat.zero_add ms), hpu ?_⟩
          replace hcc : 0 + mc ≤ mc := Nat.le_of_eq (Nat.zero_add mc)
          replace hss : 0 + ms ≤ ms := Nat.le_of_eq (Nat.zero_add ms)
          have kpa0_0 : gw_kd Sp a0 = 10 := ((hmo hS0) 0 _ rfl).1
          have rpa0_0_0 : gw_rf Sp a0 0 = a0 + 1 := ((hmo hS0) 0 _ rfl).2.2 (0, 1) (by decide)
          have kpa0_1 : gw_kd Sp (a0 + 1) = 3 := ((hmo hS0) 1 _ rfl).1
          simp only [gt_nil, true_and, eq_self, gt_aload_n, gt_rfk, gw_nth, gt_get_r, gt_get_i, gt_get_z, gt_iload_n, gt_ink, gt_v0, gt_v1, gt_v2, gt_v3, gt_v4, gt_v5, gt_iconst, gt_iret, gt_retz, Option.toList, List.cons_append, List.nil_append, Nat.add_zero, kpa0_0, rpa0_0_0, kpa0_1]
          obtain ⟨r_19, e_21, h⟩ := gw_bnd h
          refine ⟨rfl, 0, 0, hcc, hss, ok_X3_guest (gw_sub (hmo hS0) 3 1 (by decide +kernel)) e_21 ?_⟩
          intro hsr_19
          have kpr_19_0 : gw_kd Sp r_19 = 0 := (hsr_19 0 _ rfl).1
          simp only [gt_nil, true_and, eq_self, gt_iload_n, gt_ink, gw_nth, gt_aload_n, gt_rfk, gt_get_r, gt_get_i, gt_get_z, gt_v0, gt_v1, gt_v2, gt_v3, gt_v4, gt_v5, gt_iconst, gt_iret, gt_retz, Option.toList, List.cons_append, List.nil_append, Nat.add_zero, kpa0_0, rpa0_0_0, kpa0_1, kpr_19_0]
          obtain ⟨μ_24, e_25, h⟩ := gw_bnd h
          refine ⟨rfl, 0, 0, hcc, hss, ok_X0_await hsr_19 e_25 ?_⟩
          simp only [gt_nil, true_and, eq_self, gt_aload_n, gt_rfk, gw_nth, gt_get_r, gt_get_i, gt_get_z, gt_v0, gt_v1, gt_v2, gt_v3, gt_v4, gt_v5, gt_iconst, gt_iret, gt_retz, Option.toList, List.cons_append, List.nil_append, Nat.add_zero, kpa0_0, rpa0_0_0, kpa0_1, kpr_19_0]
          obtain ⟨μ_28, e_29, h⟩ := gw_bnd h
          refine ⟨rfl, 0, 0, hcc, hss, ok_X3_dealOut (gw_sub (hmo hS0) 3 1 (by decide +kernel)) e_29 ?_⟩
          simp only [gt_nil, true_and, eq_self, gt_iconst, gt_iret, gt_retz, Option.toList, List.cons_append, List.nil_append, Nat.add_zero, kpa0_0, rpa0_0_0, kpa0_1, kpr_19_0]
          obtain ⟨rfl, rfl⟩ := gw_inj2 h
          exact ⟨(Or.inr rfl), hcc, hss, hq (Or.inr rfl)⟩
        · replace h := gw_ifn h c_16
          refine hK _ _ _ _ _ _ _ ?_
          rw [fdX10_send_53]
          simp only [gt_nil, true_and, eq_self, gt_iconst, gt_iret, gt_retz, bkX10_send_53, ka0_0, ra0_0_0, ra0_0_1, ka0_1, ka0_83, kr_8_0]
          obtain ⟨rfl, rfl, rfl⟩ := gw_inj3 h
          exact ⟨(Or.inl rfl), hcc, hss, hq (Or.inl rfl)⟩
  · replace h := gw_ifn2 (gw_c2_eq _ _) h c_1
    refine ⟨fun c_31 => ?_, fun c_31 => ?_⟩
    · replace h := gw_ifp2 (gw_c2_ne _ _) h c_31
      refine hK _ _ _ _ _ _ _ ?_
      rw [fdX10_send_25]
      simp only [gt_nil, true_and, eq_self, gt_iconst, bkX10_send_25, ka0_0, ra0_0_0, ra0_0_1, ka0_1, ka0_83]
      refine hK _ _ _ _ _ _ _ ?_
      rw [fdX10_send_26]
      simp only [gt_nil, true_and, eq_self, gt_istore_n, gw_set, gt_iload_n, gt_ink, gw_nth, gt_if, gt_s1_0, gt_s2_0, gt_s3_0, gt_s4_0, gt_s1_1, gt_s2_1, gt_s3_1, gt_s4_1, gt_acpy, gt_aload_n, gt_rfk, gt_get_r, gt_get_i, gt_get_z, gt_v0, gt_v1, gt_v2, gt_v3, gt_v4, gt_v5, bkX10_send_26, ka0_0, ra0_0_0, ra0_0_1, ka0_1, ka0_83]
      refine ⟨fun c_32 => ?_, fun c_32 => ?_⟩
      · replace h := gw_ifp h c_32
        refine hK _ _ _ _ _ _ _ ?_
        rw [fdX10_send_53]
        simp only [gt_nil, true_and, eq_self, gt_iconst, gt_iret, gt_retz, bkX10_send_53, ka0_0, ra0_0_0, ra0_0_1, ka0_1, ka0_83]
        obtain ⟨rfl, rfl, rfl⟩ := gw_inj3 h
        exact ⟨(Or.inl rfl), hcc, hss, hq (Or.inl rfl)⟩
      · replace h := gw_ifn h c_32
        obtain ⟨r_33, e_35, h⟩ := gw_bnd h
        refine ⟨rfl, 0, 0, hcc, hss, ok_X10_isVector e_35 ?_⟩
        intro hbr_33
        simp only [gt_nil, true_and, eq_self, gt_if, gt_aload_n, gt_rfk, gw_nth, gt_get_r, gt_get_i, gt_get_z, gt_iload_n, gt_ink, gt_v0, gt_v1, gt_v2, gt_v3, gt_v4, gt_v5, Option.toList, List.cons_append, List.nil_append, Nat.add_zero, ka0_0, ra0_0_0, ra0_0_1, ka0_1, ka0_83]
        refine ⟨fun c_37 => ?_, fun c_37 => ?_⟩
        · replace h := gw_ifp h c_37
          refine hK _ _ _ _ _ _ _ ?_
          rw [fdX10_send_53]
          simp only [gt_nil, true_and, eq_self, gt_iconst, gt_iret, gt_retz, bkX10_send_53, ka0_0, ra0_0_0, ra0_0_1, ka0_1, ka0_83]
          obtain ⟨rfl, rfl, rfl⟩ := gw_inj3 h
          exact ⟨(Or.inl rfl), hcc, hss, hq (Or.inl rfl)⟩
        · replace h := gw_ifn h c_37
          obtain ⟨r_38, e_40, h⟩ := gw_bnd h
          refine ⟨rfl, 0, 0, hcc, hss, ok_X3_guest (gw_sub hS0 3 1 (by decide +kernel)) e_40 ?_⟩
          intro hsr_38
          have kr_38_0 : gw_kd S r_38 = 0 := (hsr_38 0 _ rfl).1
          simp only [gt_nil, true_and, eq_self, gt_iload_n, gt_ink, gw_nth, gt_v0, gt_v1, gt_v2, gt_v3, gt_v4, gt_v5, gt_if, Option.toList, List.cons_append, List.nil_append, Nat.add_zero, ka0_0, ra0_0_0, ra0_0_1, ka0_1, ka0_83, kr_38_0]
          obtain ⟨r_42, e_44, h⟩ := gw_bnd h
          refine ⟨rfl, 0, 0, hcc, hss, ok_X0_awaits hsr_38 e_44 ?_⟩
          intro hbr_42
          simp only [gt_nil, true_and, eq_self, gt_if, Option.toList, List.cons_append, List.nil_append, Nat.add_zero, ka0_0, ra0_0_0, ra0_0_1, ka0_1, ka0_83, kr_38_0]
          refine ⟨fun c_46 => ?_, fun c_46 => ?_⟩
          · replace h := gw_ifp h c_46
            refine hK _ _ _ _ _ _ _ ?_
            rw [fdX10_send_55]
            simp only [gt_nil, true_and, eq_self, gt_aload_n, gt_rfk, gw_nth, gt_get_r, gt_get_i, gt_get_z, gt_v0, gt_v1, gt_v2, gt_v3, gt_v4, gt_v5, gt_iload_n, gt_ink, gt_iconst, gt_iret, gt_retz, bkX10_send_55, ka0_0, ra0_0_0, ra0_0_1, ka0_1, ka0_83, kr_38_0]
            obtain ⟨⟨zr_47, zm_48⟩, h2, hz⟩ := gw_mp h
            clear h
            obtain ⟨rfl, rfl, rfl⟩ := gw_tup hz
            have h := h2
            replace hq : ((zr_47 = 0 ∨ zr_47 = 1) → Q (some (.int zr_47)) Sp zm_48) := hq
            refine ⟨rfl, mc, ms, Nat.le_of_eq (Nat.zero_add mc), Nat.le_of_eq (Nat.zero_add ms), hpu ?_⟩
            replace hcc : 0 + mc ≤ mc := Nat.le_of_eq (Nat.zero_add mc)
            replace hss : 0 + ms ≤ ms := Nat.le_of_eq (Nat.zero_add ms)
            have kpa0_0 : gw_kd Sp a0 = 10 := ((hmo hS0) 0 _ rfl).1
            have rpa0_0_0 : gw_rf Sp a0 0 = a0 + 1 := ((hmo hS0) 0 _ rfl).2.2 (0, 1) (by decide)
            have kpa0_1 : gw_kd Sp (a0 + 1) = 3 := ((hmo hS0) 1 _ rfl).1
            simp only [gt_nil, true_and, eq_self, gt_aload_n, gt_rfk, gw_nth, gt_get_r, gt_get_i, gt_get_z, gt_iload_n, gt_ink, gt_v0, gt_v1, gt_v2, gt_v3, gt_v4, gt_v5, gt_iconst, gt_iret, gt_retz, Option.toList, List.cons_append, List.nil_append, Nat.add_zero, kpa0_0, rpa0_0_0, kpa0_1]
            obtain ⟨r_49, e_51, h⟩ := gw_bnd h
            refine ⟨rfl, 0, 0, hcc, hss, ok_X3_guest (gw_sub (hmo hS0) 3 1 (by decide +kernel)) e_51 ?_⟩
            intro hsr_49
            have kpr_49_0 : gw_kd Sp r_49 = 0 := (hsr_49 0 _ rfl).1
            simp only [gt_nil, true_and, eq_self, gt_iload_n, gt_ink, gw_nth, gt_aload_n, gt_rfk, gt_get_r, gt_get_i, gt_get_z, gt_v0, gt_v1, gt_v2, gt_v3, gt_v4, gt_v5, gt_iconst, gt_iret, gt_retz, Option.toList, List.cons_append, List.nil_append, Nat.add_zero, kpa0_0, rpa0_0_0, kpa0_1, kpr_49_0]
            obtain ⟨μ_54, e_55, h⟩ := gw_bnd h
            refine ⟨rfl, 0, 0, hcc, hss, ok_X0_await hsr_49 e_55 ?_⟩
            simp only [gt_nil, true_and, eq_self, gt_aload_n, gt_rfk, gw_nth, gt_get_r, gt_get_i, gt_get_z, gt_v0, gt_v1, gt_v2, gt_v3, gt_v4, gt_v5, gt_iconst, gt_iret, gt_retz, Option.toList, List.cons_append, List.nil_append, Nat.add_zero, kpa0_0, rpa0_0_0, kpa0_1, kpr_49_0]
            obtain ⟨μ_58, e_59, h⟩ := gw_bnd h
            refine ⟨rfl, 0, 0, hcc, hss, ok_X3_dealOut (gw_sub (hmo hS0) 3 1 (by decide +kernel)) e_59 ?_⟩
            simp only [gt_nil, true_and, eq_self, gt_iconst, gt_iret, gt_retz, Option.toList, List.cons_append, List.nil_append, Nat.add_zero, kpa0_0, rpa0_0_0, kpa0_1, kpr_49_0]
            obtain ⟨rfl, rfl⟩ := gw_inj2 h
            exact ⟨(Or.inr rfl), hcc, hss, hq (Or.inr rfl)⟩
          · replace h := gw_ifn h c_46
            refine hK _ _ _ _ _ _ _ ?_
            rw [fdX10_send_53]
            simp only [gt_nil, true_and, eq_self, gt_iconst, gt_iret, gt_retz, bkX10_send_53, ka0_0, ra0_0_0, ra0_0_1, ka0_1, ka0_83, kr_38_0]
            obtain ⟨rfl, rfl, rfl⟩ := gw_inj3 h
            exact ⟨(Or.inl rfl), hcc, hss, hq (Or.inl rfl)⟩
    · replace h := gw_ifn2 (gw_c2_ne _ _) h c_31
      refine ⟨fun c_61 => ?_, fun c_61 => ?_⟩
      · replace h := gw_ifp2 (gw_c2_ne _ _) h c_61
        refine hK _ _ _ _ _ _ _ ?_
        rw [fdX10_send_25]
        simp only [gt_nil, true_and, eq_self, gt_iconst, bkX10_send_25, ka0_0, ra0_0_0, ra0_0_1, ka0_1, ka0_83]
        refine hK _ _ _ _ _ _ _ ?_
        rw [fdX10_send_26]
        simp only [gt_nil, true_and, eq_self, gt_istore_n, gw_set, gt_iload_n, gt_ink, gw_nth, gt_if, gt_s1_0, gt_s2_0, gt_s3_0, gt_s4_0, gt_s1_1, gt_s2_1, gt_s3_1, gt_s4_1, gt_acpy, gt_aload_n, gt_rfk, gt_get_r, gt_get_i, gt_get_z, gt_v0, gt_v1, gt_v2, gt_v3, gt_v4, gt_v5, bkX10_send_26, ka0_0, ra0_0_0, ra0_0_1, ka0_1, ka0_83]
        refine ⟨fun c_62 => ?_, fun c_62 => ?_⟩
        · replace h := gw_ifp h c_62
          refine hK _ _ _ _ _ _ _ ?_
          rw [fdX10_send_53]
          simp only [gt_nil, true_and, eq_self, gt_iconst, gt_iret, gt_retz, bkX10_send_53, ka0_0, ra0_0_0, ra0_0_1, ka0_1, ka0_83]
          obtain ⟨rfl, rfl, rfl⟩ := gw_inj3 h
          exact ⟨(Or.inl rfl), hcc, hss, hq (Or.inl rfl)⟩
        · replace h := gw_ifn h c_62
          obtain ⟨r_63, e_65, h⟩ := gw_bnd h
          refine ⟨rfl, 0, 0, hcc, hss, ok_X10_isVector e_65 ?_⟩
          intro hbr_63
          simp only [gt_nil, true_and, eq_self, gt_if, gt_aload_n, gt_rfk, gw_nth, gt_get_r, gt_get_i, gt_get_z, gt_iload_n, gt_ink, gt_v0, gt_v1, gt_v2, gt_v3, gt_v4, gt_v5, Option.toList, List.cons_append, List.nil_append, Nat.add_zero, ka0_0, ra0_0_0, ra0_0_1, ka0_1, ka0_83]
          refine ⟨fun c_67 => ?_, fun c_67 => ?_⟩
          · replace h := gw_ifp h c_67
            refine hK _ _ _ _ _ _ _ ?_
            rw [fdX10_send_53]
            simp only [gt_nil, true_and, eq_self, gt_iconst, gt_iret, gt_retz, bkX10_send_53, ka0_0, ra0_0_0, ra0_0_1, ka0_1, ka0_83]
            obtain ⟨rfl, rfl, rfl⟩ := gw_inj3 h
            exact ⟨(Or.inl rfl), hcc, hss, hq (Or.inl rfl)⟩
          · replace h := gw_ifn h c_67
            obtain ⟨r_68, e_70, h⟩ := gw_bnd h
            refine ⟨rfl, 0, 0, hcc, hss, ok_X3_guest (gw_sub hS0 3 1 (by decide +kernel)) e_70 ?_⟩
            intro hsr_68
            have kr_68_0 : gw_kd S r_68 = 0 := (hsr_68 0 _ rfl).1
            simp only [gt_nil, true_and, eq_self, gt_iload_n, gt_ink, gw_nth, gt_v0, gt_v1, gt_v2, gt_v3, gt_v4, gt_v5, gt_if, Option.toList, List.cons_append, List.nil_append, Nat.add_zero, ka0_0, ra0_0_0, ra0_0_1, ka0_1, ka0_83, kr_68_0]
            obtain ⟨r_72, e_74, h⟩ := gw_bnd h
            refine ⟨rfl, 0, 0, hcc, hss, ok_X0_awaits hsr_68 e_74 ?_⟩
            intro hbr_72
            simp only [gt_nil, true_and, eq_self, gt_if, Option.toList, List.cons_append, List.nil_append, Nat.add_zero, ka0_0, ra0_0_0, ra0_0_1, ka0_1, ka0_83, kr_68_0]
            refine ⟨fun c_76 => ?_, fun c_76 => ?_⟩
            · replace h := gw_ifp h c_76
              refine hK _ _ _ _ _ _ _ ?_
              rw [fdX10_send_55]
              simp only [gt_nil, true_and, eq_self, gt_aload_n, gt_rfk, gw_nth, gt_get_r, gt_get_i, gt_get_z, gt_v0, gt_v1, gt_v2, gt_v3, gt_v4, gt_v5, gt_iload_n, gt_ink, gt_iconst, gt_iret, gt_retz, bkX10_send_55, ka0_0, ra0_0_0, ra0_0_1, ka0_1, ka0_83, kr_68_0]
              obtain ⟨⟨zr_77, zm_78⟩, h2, hz⟩ := gw_mp h
              clear h
              obtain ⟨rfl, rfl, rfl⟩ := gw_tup hz
              have h := h2
              replace hq : ((zr_77 = 0 ∨ zr_77 = 1) → Q (some (.int zr_77)) Sp zm_78) := hq
              refine ⟨rfl, mc, ms, Nat.le_of_eq (Nat.zero_add mc), Nat.le_of_eq (Nat.zero_add ms), hpu ?_⟩
              replace hcc : 0 + mc ≤ mc := Nat.le_of_eq (Nat.zero_add mc)
              replace hss : 0 + ms ≤ ms := Nat.le_of_eq (Nat.zero_add ms)
              have kpa0_0 : gw_kd Sp a0 = 10 := ((hmo hS0) 0 _ rfl).1
              have rpa0_0_0 : gw_rf Sp a0 0 = a0 + 1 := ((hmo hS0) 0 _ rfl).2.2 (0, 1) (by decide)
              have kpa0_1 : gw_kd Sp (a0 + 1) = 3 := ((hmo hS0) 1 _ rfl).1
              simp only [gt_nil, true_and, eq_self, gt_aload_n, gt_rfk, gw_nth, gt_get_r, gt_get_i, gt_get_z, gt_iload_n, gt_ink, gt_v0, gt_v1, gt_v2, gt_v3, gt_v4, gt_v5, gt_iconst, gt_iret, gt_retz, Option.toList, List.cons_append, List.nil_append, Nat.add_zero, kpa0_0, rpa0_0_0, kpa0_1]
              obtain ⟨r_79, e_81, h⟩ := gw_bnd h
              refine ⟨rfl, 0, 0, hcc, hss, ok_X3_guest (gw_sub (hmo hS0) 3 1 (by decide +kernel)) e_81 ?_⟩
              intro hsr_79
              have kpr_79_0 : gw_kd Sp r_79 = 0 := (hsr_79 0 _ rfl).1
              simp only [gt_nil, true_and, eq_self, gt_iload_n, gt_ink, gw_nth, gt_aload_n, gt_rfk, gt_get_r, gt_get_i, gt_get_z, gt_v0, gt_v1, gt_v2, gt_v3, gt_v4, gt_v5, gt_iconst, gt_iret, gt_retz, Option.toList, List.cons_append, List.nil_append, Nat.add_zero, kpa0_0, rpa0_0_0, kpa0_1, kpr_79_0]
              obtain ⟨μ_84, e_85, h⟩ := gw_bnd h
              refine ⟨rfl, 0, 0, hcc, hss, ok_X0_await hsr_79 e_85 ?_⟩
              simp only [gt_nil, true_and, eq_self, gt_aload_n, gt_rfk, gw_nth, gt_get_r, gt_get_i, gt_get_z, gt_v0, gt_v1, gt_v2, gt_v3, gt_v4, gt_v5, gt_iconst, gt_iret, gt_retz, Option.toList, List.cons_append, List.nil_append, Nat.add_zero, kpa0_0, rpa0_0_0, kpa0_1, kpr_79_0]
              obtain ⟨μ_88, e_89, h⟩ := gw_bnd h
              refine ⟨rfl, 0, 0, hcc, hss, ok_X3_dealOut (gw_sub (hmo hS0) 3 1 (by decide +kernel)) e_89 ?_⟩
              simp only [gt_nil, true_and, eq_self, gt_iconst, gt_iret, gt_retz, Option.toList, List.cons_append, List.nil_append, Nat.add_zero, kpa0_0, rpa0_0_0, kpa0_1, kpr_79_0]
              obtain ⟨rfl, rfl⟩ := gw_inj2 h
              exact ⟨(Or.inr rfl), hcc, hss, hq (Or.inr rfl)⟩
            · replace h := gw_ifn h c_76
              refine hK _ _ _ _ _ _ _ ?_
              rw [fdX10_send_53]
              simp only [gt_nil, true_and, eq_self, gt_iconst, gt_iret, gt_retz, bkX10_send_53, ka0_0, ra0_0_0, ra0_0_1, ka0_1, ka0_83, kr_68_0]
              obtain ⟨rfl, rfl, rfl⟩ := gw_inj3 h
              exact ⟨(Or.inl rfl), hcc, hss, hq (Or.inl rfl)⟩
      · replace h := gw_ifn2 (gw_c2_ne _ _) h c_61
        refine hK _ _ _ _ _ _ _ ?_
        rw [fdX10_send_21]
        simp only [gt_nil, true_and, eq_self, gt_iconst, gt_goto, bkX10_send_21, ka0_0, ra0_0_0, ra0_0_1, ka0_1, ka0_83]
        refine hK _ _ _ _ _ _ _ ?_
        rw [fdX10_send_26]
        simp only [gt_nil, true_and, eq_self, gt_istore_n, gw_set, gt_iload_n, gt_ink, gw_nth, gt_if, gt_s1_0, gt_s2_0, gt_s3_0, gt_s4_0, gt_s1_1, gt_s2_1, gt_s3_1, gt_s4_1, gt_acpy, gt_aload_n, gt_rfk, gt_get_r, gt_get_i, gt_get_z, gt_v0, gt_v1, gt_v2, gt_v3, gt_v4, gt_v5, bkX10_send_26, ka0_0, ra0_0_0, ra0_0_1, ka0_1, ka0_83]
        refine ⟨fun c_91 => ?_, fun c_91 => ?_⟩
        · replace h := gw_ifp h c_91
          refine hK _ _ _ _ _ _ _ ?_
          rw [fdX10_send_53]
          simp only [gt_nil, true_and, eq_self, gt_iconst, gt_iret, gt_retz, bkX10_send_53, ka0_0, ra0_0_0, ra0_0_1, ka0_1, ka0_83]
          obtain ⟨rfl, rfl, rfl⟩ := gw_inj3 h
          exact ⟨(Or.inl rfl), hcc, hss, hq (Or.inl rfl)⟩
        · replace h := gw_ifn h c_91
          obtain ⟨r_92, e_94, h⟩ := gw_bnd h
          refine ⟨rfl, 0, 0, hcc, hss, ok_X10_isVector e_94 ?_⟩
          intro hbr_92
          simp only [gt_nil, true_and, eq_self, gt_if, gt_aload_n, gt_rfk, gw_nth, gt_get_r, gt_get_i, gt_get_z, gt_iload_n, gt_ink, gt_v0, gt_v1, gt_v2, gt_v3, gt_v4, gt_v5, Option.toList, List.cons_append, List.nil_append, Nat.add_zero, ka0_0, ra0_0_0, ra0_0_1, ka0_1, ka0_83]
          refine ⟨fun c_96 => ?_, fun c_96 => ?_⟩
          · replace h := gw_ifp h c_96
            refine hK _ _ _ _ _ _ _ ?_
            rw [fdX10_send_53]
            simp only [gt_nil, true_and, eq_self, gt_iconst, gt_iret, gt_retz, bkX10_send_53, ka0_0, ra0_0_0, ra0_0_1, ka0_1, ka0_83]
            obtain ⟨rfl, rfl, rfl⟩ := gw_inj3 h
            exact ⟨(Or.inl rfl), hcc, hss, hq (Or.inl rfl)⟩
          · replace h := gw_ifn h c_96
            obtain ⟨r_97, e_99, h⟩ := gw_bnd h
            refine ⟨rfl, 0, 0, hcc, hss, ok_X3_guest (gw_sub hS0 3 1 (by decide +kernel)) e_99 ?_⟩
            intro hsr_97
            have kr_97_0 : gw_kd S r_97 = 0 := (hsr_97 0 _ rfl).1
            simp only [gt_nil, true_and, eq_self, gt_iload_n, gt_ink, gw_nth, gt_v0, gt_v1, gt_v2, gt_v3, gt_v4, gt_v5, gt_if, Option.toList, List.cons_append, List.nil_append, Nat.add_zero, ka0_0, ra0_0_0, ra0_0_1, ka0_1, ka0_83, kr_97_0]
            obtain ⟨r_101, e_103, h⟩ := gw_bnd h
            refine ⟨rfl, 0, 0, hcc, hss, ok_X0_awaits hsr_97 e_103 ?_⟩
            intro hbr_101
            simp only [gt_nil, true_and, eq_self, gt_if, Option.toList, List.cons_append, List.nil_append, Nat.add_zero, ka0_0, ra0_0_0, ra0_0_1, ka0_1, ka0_83, kr_97_0]
            refine ⟨fun c_105 => ?_, fun c_105 => ?_⟩
            · replace h := gw_ifp h c_105
              refine hK _ _ _ _ _ _ _ ?_
              rw [fdX10_send_55]
              simp only [gt_nil, true_and, eq_self, gt_aload_n, gt_rfk, gw_nth, gt_get_r, gt_get_i, gt_get_z, gt_v0, gt_v1, gt_v2, gt_v3, gt_v4, gt_v5, gt_iload_n, gt_ink, gt_iconst, gt_iret, gt_retz, bkX10_send_55, ka0_0, ra0_0_0, ra0_0_1, ka0_1, ka0_83, kr_97_0]
              obtain ⟨⟨zr_106, zm_107⟩, h2, hz⟩ := gw_mp h
              clear h
              obtain ⟨rfl, rfl, rfl⟩ := gw_tup hz
              have h := h2
              replace hq : ((zr_106 = 0 ∨ zr_106 = 1) → Q (some (.int zr_106)) Sp zm_107) := hq
              refine ⟨rfl, mc, ms, Nat.le_of_eq (Nat.zero_add mc), Nat.le_of_eq (Nat.zero_add ms), hpu ?_⟩
              replace hcc : 0 + mc ≤ mc := Nat.le_of_eq (Nat.zero_add mc)
              replace hss : 0 + ms ≤ ms := Nat.le_of_eq (Nat.zero_add ms)
              have kpa0_0 : gw_kd Sp a0 = 10 := ((hmo hS0) 0 _ rfl).1
              have rpa0_0_0 : gw_rf Sp a0 0 = a0 + 1 := ((hmo hS0) 0 _ rfl).2.2 (0, 1) (by decide)
              have kpa0_1 : gw_kd Sp (a0 + 1) = 3 := ((hmo hS0) 1 _ rfl).1
              simp only [gt_nil, true_and, eq_self, gt_aload_n, gt_rfk, gw_nth, gt_get_r, gt_get_i, gt_get_z, gt_iload_n, gt_ink, gt_v0, gt_v1, gt_v2, gt_v3, gt_v4, gt_v5, gt_iconst, gt_iret, gt_retz, Option.toList, List.cons_append, List.nil_append, Nat.add_zero, kpa0_0, rpa0_0_0, kpa0_1]
              obtain ⟨r_108, e_110, h⟩ := gw_bnd h
              refine ⟨rfl, 0, 0, hcc, hss, ok_X3_guest (gw_sub (hmo hS0) 3 1 (by decide +kernel)) e_110 ?_⟩
              intro hsr_108
              have kpr_108_0 : gw_kd Sp r_108 = 0 := (hsr_108 0 _ rfl).1
              simp only [gt_nil, true_and, eq_self, gt_iload_n, gt_ink, gw_nth, gt_aload_n, gt_rfk, gt_get_r, gt_get_i, gt_get_z, gt_v0, gt_v1, gt_v2, gt_v3, gt_v4, gt_v5, gt_iconst, gt_iret, gt_retz, Option.toList, List.cons_append, List.nil_append, Nat.add_zero, kpa0_0, rpa0_0_0, kpa0_1, kpr_108_0]
              obtain ⟨μ_113, e_114, h⟩ := gw_bnd h
              refine ⟨rfl, 0, 0, hcc, hss, ok_X0_await hsr_108 e_114 ?_⟩
              simp only [gt_nil, true_and, eq_self, gt_aload_n, gt_rfk, gw_nth, gt_get_r, gt_get_i, gt_get_z, gt_v0, gt_v1, gt_v2, gt_v3, gt_v4, gt_v5, gt_iconst, gt_iret, gt_retz, Option.toList, List.cons_append, List.nil_append, Nat.add_zero, kpa0_0, rpa0_0_0, kpa0_1, kpr_108_0]
              obtain ⟨μ_117, e_118, h⟩ := gw_bnd h
              refine ⟨rfl, 0, 0, hcc, hss, ok_X3_dealOut (gw_sub (hmo hS0) 3 1 (by decide +kernel)) e_118 ?_⟩
              simp only [gt_nil, true_and, eq_self, gt_iconst, gt_iret, gt_retz, Option.toList, List.cons_append, List.nil_append, Nat.add_zero, kpa0_0, rpa0_0_0, kpa0_1, kpr_108_0]
              obtain ⟨rfl, rfl⟩ := gw_inj2 h
              exact ⟨(Or.inr rfl), hcc, hss, hq (Or.inr rfl)⟩
            · replace h := gw_ifn h c_105
              refine hK _ _ _ _ _ _ _ ?_
              rw [fdX10_send_53]
              simp only [gt_nil, true_and, eq_self, gt_iconst, gt_iret, gt_retz, bkX10_send_53, ka0_0, ra0_0_0, ra0_0_1, ka0_1, ka0_83, kr_97_0]
              obtain ⟨rfl, rfl, rfl⟩ := gw_inj3 h
              exact ⟨(Or.inl rfl), hcc, hss, hq (Or.inl rfl)⟩
def F_X10_isGuest_10 (n0 : Nat) (μ : gw_M) : Option (Int32) := some 1
def F_X10_isGuest (n0 : Nat) (v0 : Int32) (μ : gw_M) : Option (Int32) := (if v0 = 1 then F_X10_isGuest_10 n0 μ else (if ¬ v0 = 2 then some 0 else F_X10_isGuest_10 n0 μ))
theorem B_X10_isGuest_10 {l : Launch} {x : gw_C} {d : Nat} {S : gw_S} {Q : Option Value → gw_S → gw_M → Prop} {K : Nat → gw_Kt} {mc ms cc ss : Nat} (hcc : cc ≤ mc) (hss : ss ≤ ms) (hK : gw_cl l x (d + 0) mc ms bsX10_isGuest Q K) {n0 : Nat}  {u0 : Value} {μ : gw_M} {r} (h : F_X10_isGuest_10 n0 μ = some r) (hq : ((r = 0 ∨ r = 1) → Q (some (.int r)) S μ)) : K 10 [u0] [] S μ cc ss := by
  unfold F_X10_isGuest_10 at h
  refine hK _ _ _ _ _ _ _ ?_
  rw [fdX10_isGuest_10]
  simp only [gt_nil, true_and, eq_self, gt_iconst, gt_goto, bkX10_isGuest_10]
  refine hK _ _ _ _ _ _ _ ?_
  rw [fdX10_isGuest_15]
  simp only [gt_nil, true_and, eq_self, gt_iret, gt_retz, bkX10_isGuest_15]
  obtain rfl := gw_inj1 h
  exact ⟨(Or.inr rfl), hcc, hss, hq (Or.inr rfl)⟩
theorem ok_X10_isGuest {l : Launch} {x : gw_C} {d : Nat} {S : gw_S} {Q : Option Value → gw_S → gw_M → Prop} {v0 : Int32} {n0 : Nat} {μ : gw_M} {r} (h : F_X10_isGuest n0 v0 μ = some r) (hq : ((r = 0 ∨ r = 1) → Q (some (.int r)) S μ)) : gw_ok l x (d + 1) sgX10_isGuest 0 0 [.int v0] S μ Q := by
  refine gw_ok_of stX10_isGuest (lv0 := [.int v0]) (Nat.le_of_ble_eq_true rfl) rfl rfl ?_
  intro K hK
  have hcc : 0 ≤ 0 := Nat.zero_le _
  have hss : 0 ≤ 0 := Nat.zero_le _
  unfold F_X10_isGuest at h
  refine hK _ _ _ _ _ _ _ ?_
  rw [fdX10_isGuest_0]
  simp only [gt_nil, true_and, eq_self, gt_iload_n, gt_ink, gw_nth, gt_iconst, gt_icmp, bkX10_isGuest_0]
  refine ⟨fun c_1 => ?_, fun c_1 => ?_⟩
  · replace h := gw_ifp2 (gw_c2_eq _ _) h c_1
    exact B_X10_isGuest_10 hcc hss hK h hq
  · replace h := gw_ifn2 (gw_c2_eq _ _) h c_1
    refine ⟨fun c_2 => ?_, fun c_2 => ?_⟩
    · replace h := gw_ifp2 (gw_c2_ne _ _) h c_2
      refine hK _ _ _ _ _ _ _ ?_
      rw [fdX10_isGuest_14]
      simp only [gt_nil, true_and, eq_self, gt_iconst, bkX10_isGuest_14]
      refine hK _ _ _ _ _ _ _ ?_
      rw [fdX10_isGuest_15]
      simp only [gt_nil, true_and, eq_self, gt_iret, gt_retz, bkX10_isGuest_15]
      obtain rfl := gw_inj1 h
      exact ⟨(Or.inl rfl), hcc, hss, hq (Or.inl rfl)⟩
    · replace h := gw_ifn2 (gw_c2_ne _ _) h c_2
      exact B_X10_isGuest_10 hcc hss hK h hq
def F_X10_open (n0 : Nat) (a0 : Nat) (v1 : Int32) (v2 : Int32) (μ pu : gw_M) : Option (Int32 × gw_M × Bool) := (F_X10_isGuest n0 v1 μ).bind (fun (r_1 : Int32) => (if ¬ r_1 = 0 then (((F_X3_guest n0 (a0 + 1) v1 pu).bind (fun (r_8 : Nat) => gw_let (gw_up pu r_8 4 v2) (fun (μ_12 : gw_M) => (F_X3_dealOut n0 (a0 + 1) μ_12).bind (fun (μ_14 : gw_M) => some (1, μ_14))))).map (fun (z : Int32 × gw_M) => (z.1, z.2, true))) else some (0, μ, false)))
theorem ok_X10_open {l : Launch} {x : gw_C} {d mc ms : Nat} {S Sp : gw_S} {Q : Option Value → gw_S → gw_M → Prop} {v1 v2 : Int32} {a0 n0 : Nat} {μ pu : gw_M} {r μ'} {b : Bool} (hmo : ∀ {c e : Nat}, gw_sh S c e → gw_sh Sp c e) (hpu : ∀ {Q1 : Option Value → gw_S → gw_M → Prop}, Q1 none Sp pu → gw_ok l x (d + 8) sgX5_push mc ms [.ref (a0 + 83), .ref (a0 + 1)] S μ Q1) (hS0 : gw_sh S 10 a0) (hz2 : v2 = 0 ∨ v2 = 1) (h : F_X10_open n0 a0 v1 v2 μ pu = some (r, μ', b)) (hq : ((r = 0 ∨ r = 1) → Q (some (.int r)) (cond b Sp S) μ')) : gw_ok l x (d + 9) sgX10_open mc ms [.ref a0, .int v1, .int v2] S μ Q := by
  refine gw_ok_of stX10_open (lv0 := [.ref a0, .int v1, .int v2]) (Nat.le_of_ble_eq_true rfl) rfl rfl ?_
  intro K hK
  have hcc : 0 ≤ mc := Nat.zero_le _
  have hss : 0 ≤ ms := Nat.zero_le _
  have ka0_0 : gw_kd S a0 = 10 := (hS0 0 _ rfl).1
  have ra0_0_0 : gw_rf S a0 0 = a0 + 1 := (hS0 0 _ rfl).2.2 (0, 1) (by decide)
  have ra0_0_1 : gw_rf S a0 1 = a0 + 83 := (hS0 0 _ rfl).2.2 (1, 83) (by decide)
  have ka0_83 : gw_kd S (a0 + 83) = 5 := (hS0 83 _ rfl).1
  unfold F_X10_open at h
  refine hK _ _ _ _ _ _ _ ?_
  rw [fdX10_open_0]
  simp only [gt_nil, true_and, eq_self, gt_iload_n, gt_ink, gw_nth, gt_s1_0, gt_s2_0, gt_s3_0, gt_s4_0, gt_s1_1, gt_s2_1, gt_s3_1, gt_s4_1, gt_acpy, gt_if, gt_iconst, gt_iret, gt_retz, bkX10_open_0, ka0_0, ra0_0_0, ra0_0_1, ka0_83]
  obtain ⟨r_1, e_3, h⟩ := gw_bnd h
  refine ⟨rfl, 0, 0, hcc, hss, ok_X10_isGuest e_3 ?_⟩
  intro hbr_1
  simp only [gt_nil, true_and, eq_self, gt_if, gt_iconst, gt_iret, gt_retz, Option.toList, List.cons_append, List.nil_append, Nat.add_zero, ka0_0, ra0_0_0, ra0_0_1, ka0_83]
  refine ⟨fun c_5 => ?_, fun c_5 => ?_⟩
  · replace h := gw_ifp h c_5
    refine hK _ _ _ _ _ _ _ ?_
    rw [fdX10_open_9]
    simp only [gt_nil, true_and, eq_self, gt_aload_n, gt_rfk, gw_nth, gt_get_r, gt_get_i, gt_get_z, gt_v0, gt_v1, gt_v2, gt_v3, gt_v4, gt_v5, gt_iload_n, gt_ink, gt_put_i, gt_putz, gt_iconst, gt_iret, gt_retz, bkX10_open_9, ka0_0, ra0_0_0, ra0_0_1, ka0_83]
    obtain ⟨⟨zr_6, zm_7⟩, h2, hz⟩ := gw_mp h
    clear h
    obtain ⟨rfl, rfl, rfl⟩ := gw_tup hz
    have h := h2
    replace hq : ((zr_6 = 0 ∨ zr_6 = 1) → Q (some (.int zr_6)) Sp zm_7) := hq
    refine ⟨rfl, mc, ms, Nat.le_of_eq (Nat.zero_add mc), Nat.le_of_eq (Nat.zero_add ms), hpu ?_⟩
    replace hcc : 0 + mc ≤ mc := Nat.le_of_eq (Nat.zero_add mc)
    replace hss : 0 + ms ≤ ms := Nat.le_of_eq (Nat.zero_add ms)
    have kpa0_0 : gw_kd Sp a0 = 10 := ((hmo hS0) 0 _ rfl).1
    have rpa0_0_0 : gw_rf Sp a0 0 = a0 + 1 := ((hmo hS0) 0 _ rfl).2.2 (0, 1) (by decide)
    have kpa0_1 : gw_kd Sp (a0 + 1) = 3 := ((hmo hS0) 1 _ rfl).1
    simp only [gt_nil, true_and, eq_self, gt_aload_n, gt_rfk, gw_nth, gt_get_r, gt_get_i, gt_get_z, gt_iload_n, gt_ink, gt_v0, gt_v1, gt_v2, gt_v3, gt_v4, gt_v5, gt_put_i, gt_putz, gt_iconst, gt_iret, gt_retz, Option.toList, List.cons_append, List.nil_append, Nat.add_zero, kpa0_0, rpa0_0_0, kpa0_1]
    obtain ⟨r_8, e_10, h⟩ := gw_bnd h
    refine ⟨rfl, 0, 0, hcc, hss, ok_X3_guest (gw_sub (hmo hS0) 3 1 (by decide +kernel)) e_10 ?_⟩
    intro hsr_8
    have kpr_8_0 : gw_kd Sp r_8 = 0 := (hsr_8 0 _ rfl).1
    simp only [gt_nil, true_and, eq_self, gt_iload_n, gt_ink, gw_nth, gt_put_i, gt_putz, gt_aload_n, gt_rfk, gt_get_r, gt_get_i, gt_get_z, gt_v0, gt_v1, gt_v2, gt_v3, gt_v4, gt_v5, gt_iconst, gt_iret, gt_retz, Option.toList, List.cons_append, List.nil_append, Nat.add_zero, kpa0_0, rpa0_0_0, kpa0_1, kpr_8_0]
    refine ⟨hz2, ?_⟩
    obtain ⟨μ_12, hμ_12, h⟩ := gw_lt h
    try rw [← hμ_12]
    obtain ⟨μ_14, e_15, h⟩ := gw_bnd h
    refine ⟨rfl, 0, 0, hcc, hss, ok_X3_dealOut (gw_sub (hmo hS0) 3 1 (by decide +kernel)) e_15 ?_⟩
    simp only [gt_nil, true_and, eq_self, gt_iconst, gt_iret, gt_retz, Option.toList, List.cons_append, List.nil_append, Nat.add_zero, kpa0_0, rpa0_0_0, kpa0_1, kpr_8_0]
    obtain ⟨rfl, rfl⟩ := gw_inj2 h
    exact ⟨(Or.inr rfl), hcc, hss, hq (Or.inr rfl)⟩
  · replace h := gw_ifn h c_5
    obtain ⟨rfl, rfl, rfl⟩ := gw_inj3 h
    exact ⟨(Or.inl rfl), hcc, hss, hq (Or.inl rfl)⟩
def F_X10_finish (n0 : Nat) (a0 : Nat) (μ pu : gw_M) : Option (Int32 × gw_M × Bool) := (F_X3_guest n0 (a0 + 1) (μ (a0 + 1) 6) μ).bind (fun (r_1 : Nat) => (if ¬ (μ r_1 3) = 0 then (((F_X3_guest n0 (a0 + 1) (pu (a0 + 1) 6) pu).bind (fun (r_8 : Nat) => (gw_bi (F_X0_endService n0 r_8 pu) (fun (r_12 : Int32) (μ_13 : gw_M) => (F_X3_dealOut n0 (a0 + 1) μ_13).bind (fun (μ_17 : gw_M) => some (r_12, μ_17)))))).map (fun (z : Int32 × gw_M) => (z.1, z.2, true))) else some ((-1), μ, false)))
theorem ok_X10_finish {l : Launch} {x : gw_C} {d mc ms : Nat} {S Sp : gw_S} {Q : Option Value → gw_S → gw_M → Prop} {a0 n0 : Nat} {μ pu : gw_M} {r μ'} {b : Bool} (hmo : ∀ {c e : Nat}, gw_sh S c e → gw_sh Sp c e) (hpu : ∀ {Q1 : Option Value → gw_S → gw_M → Prop}, Q1 none Sp pu → gw_ok l x (d + 8) sgX5_push mc ms [.ref (a0 + 83), .ref (a0 + 1)] S μ Q1) (hS0 : gw_sh S 10 a0) (h : F_X10_finish n0 a0 μ pu = some (r, μ', b)) (hq : Q (some (.int r)) (cond b Sp S) μ') : gw_ok l x (d + 9) sgX10_finish mc ms [.ref a0] S μ Q := by
  refine gw_ok_of stX10_finish (lv0 := [.ref a0, .retAddr 0]) (Nat.le_of_ble_eq_true rfl) rfl rfl ?_
  intro K hK
  have hcc : 0 ≤ mc := Nat.zero_le _
  have hss : 0 ≤ ms := Nat.zero_le _
  have ka0_0 : gw_kd S a0 = 10 := (hS0 0 _ rfl).1
  have ra0_0_0 : gw_rf S a0 0 = a0 + 1 := (hS0 0 _ rfl).2.2 (0, 1) (by decide)
  have ra0_0_1 : gw_rf S a0 1 = a0 + 83 := (hS0 0 _ rfl).2.2 (1, 83) (by decide)
  have ka0_1 : gw_kd S (a0 + 1) = 3 := (hS0 1 _ rfl).1
  have ka0_83 : gw_kd S (a0 + 83) = 5 := (hS0 83 _ rfl).1
  unfold F_X10_finish at h
  refine hK _ _ _ _ _ _ _ ?_
  rw [fdX10_finish_0]
  simp only [gt_nil, true_and, eq_self, gt_aload_n, gt_rfk, gw_nth, gt_get_r, gt_get_i, gt_get_z, gt_v0, gt_v1, gt_v2, gt_v3, gt_v4, gt_v5, gt_if, gt_iconst, gt_iret, gt_retz, bkX10_finish_0, ka0_0, ra0_0_0, ra0_0_1, ka0_1, ka0_83]
  obtain ⟨r_1, e_3, h⟩ := gw_bnd h
  refine ⟨rfl, 0, 0, hcc, hss, ok_X3_guest (gw_sub hS0 3 1 (by decide +kernel)) e_3 ?_⟩
  intro hsr_1
  have kr_1_0 : gw_kd S r_1 = 0 := (hsr_1 0 _ rfl).1
  simp only [gt_nil, true_and, eq_self, gt_get_r, gt_get_i, gt_get_z, gt_if, gt_iconst, gt_iret, gt_retz, Option.toList, List.cons_append, List.nil_append, Nat.add_zero, ka0_0, ra0_0_0, ra0_0_1, ka0_1, ka0_83, kr_1_0]
  refine ⟨fun c_5 => ?_, fun c_5 => ?_⟩
  · replace h := gw_ifp h c_5
    refine hK _ _ _ _ _ _ _ ?_
    rw [fdX10_finish_22]
    simp only [gt_nil, true_and, eq_self, gt_aload_n, gt_rfk, gw_nth, gt_get_r, gt_get_i, gt_get_z, gt_v0, gt_v1, gt_v2, gt_v3, gt_v4, gt_v5, gt_istore_n, gw_set, gt_iload_n, gt_ink, gt_iret, gt_retz, bkX10_finish_22, ka0_0, ra0_0_0, ra0_0_1, ka0_1, ka0_83, kr_1_0]
    obtain ⟨⟨zr_6, zm_7⟩, h2, hz⟩ := gw_mp h
    clear h
    obtain ⟨rfl, rfl, rfl⟩ := gw_tup hz
    have h := h2
    replace hq : Q (some (.int zr_6)) Sp zm_7 := hq
    refine ⟨rfl, mc, ms, Nat.le_of_eq (Nat.zero_add mc), Nat.le_of_eq (Nat.zero_add ms), hpu ?_⟩
    replace hcc : 0 + mc ≤ mc := Nat.le_of_eq (Nat.zero_add mc)
    replace hss : 0 + ms ≤ ms := Nat.le_of_eq (Nat.zero_add ms)
    have kpa0_0 : gw_kd Sp a0 = 10 := ((hmo hS0) 0 _ rfl).1
    have rpa0_0_0 : gw_rf Sp a0 0 = a0 + 1 := ((hmo hS0) 0 _ rfl).2.2 (0, 1) (by decide)
    have kpa0_1 : gw_kd Sp (a0 + 1) = 3 := ((hmo hS0) 1 _ rfl).1
    simp only [gt_nil, true_and, eq_self, gt_aload_n, gt_rfk, gw_nth, gt_get_r, gt_get_i, gt_get_z, gt_v0, gt_v1, gt_v2, gt_v3, gt_v4, gt_v5, gt_istore_n, gw_set, gt_iload_n, gt_ink, gt_iret, gt_retz, Option.toList, List.cons_append, List.nil_append, Nat.add_zero, kpa0_0, rpa0_0_0, kpa0_1]
    obtain ⟨r_8, e_10, h⟩ := gw_bnd h
    refine ⟨rfl, 0, 0, hcc, hss, ok_X3_guest (gw_sub (hmo hS0) 3 1 (by decide +kernel)) e_10 ?_⟩
    intro hsr_8
    have kpr_8_0 : gw_kd Sp r_8 = 0 := (hsr_8 0 _ rfl).1
    simp only [gt_nil, true_and, eq_self, gt_v0, gt_v1, gt_v2, gt_v3, gt_v4, gt_v5, gt_istore_n, gw_set, gt_aload_n, gt_rfk, gw_nth, gt_get_r, gt_get_i, gt_get_z, gt_iload_n, gt_ink, gt_iret, gt_retz, Option.toList, List.cons_append, List.nil_append, Nat.add_zero, kpa0_0, rpa0_0_0, kpa0_1, kpr_8_0]
    obtain ⟨r_12, μ_13, e_14, h⟩ := gw_bnd2 h
    refine ⟨rfl, 0, 0, hcc, hss, ok_X0_endService hsr_8 e_14 ?_⟩
    simp only [gt_nil, true_and, eq_self, gt_istore_n, gw_set, gt_aload_n, gt_rfk, gw_nth, gt_get_r, gt_get_i, gt_get_z, gt_v0, gt_v1, gt_v2, gt_v3, gt_v4, gt_v5, gt_iload_n, gt_ink, gt_iret, gt_retz, Option.toList, List.cons_append, List.nil_append, Nat.add_zero, kpa0_0, rpa0_0_0, kpa0_1, kpr_8_0]
    obtain ⟨μ_17, e_18, h⟩ := gw_bnd h
    refine ⟨rfl, 0, 0, hcc, hss, ok_X3_dealOut (gw_sub (hmo hS0) 3 1 (by decide +kernel)) e_18 ?_⟩
    simp only [gt_nil, true_and, eq_self, gt_iload_n, gt_ink, gw_nth, gt_iret, gt_retz, Option.toList, List.cons_append, List.nil_append, Nat.add_zero, kpa0_0, rpa0_0_0, kpa0_1, kpr_8_0]
    obtain ⟨rfl, rfl⟩ := gw_inj2 h
    exact ⟨hcc, hss, hq⟩
  · replace h := gw_ifn h c_5
    obtain ⟨rfl, rfl, rfl⟩ := gw_inj3 h
    exact ⟨hcc, hss, hq⟩
def F_X10_isInnerGuest (n0 : Nat) (v0 : Int32) (μ : gw_M) : Option (Int32) := (F_X10_within n0 v0 0 2 μ).bind (fun (r_1 : Int32) => some r_1)
theorem ok_X10_isInnerGuest {l : Launch} {x : gw_C} {d : Nat} {S : gw_S} {Q : Option Value → gw_S → gw_M → Prop} {v0 : Int32} {n0 : Nat} {μ : gw_M} {r} (h : F_X10_isInnerGuest n0 v0 μ = some r) (hq : ((r = 0 ∨ r = 1) → Q (some (.int r)) S μ)) : gw_ok l x (d + 2) sgX10_isInnerGuest 0 0 [.int v0] S μ Q := by
  refine gw_ok_of stX10_isInnerGuest (lv0 := [.int v0]) (Nat.le_of_ble_eq_true rfl) rfl rfl ?_
  intro K hK
  have hcc : 0 ≤ 0 := Nat.zero_le _
  have hss : 0 ≤ 0 := Nat.zero_le _
  unfold F_X10_isInnerGuest at h
  refine hK _ _ _ _ _ _ _ ?_
  rw [fdX10_isInnerGuest_0]
  simp only [gt_nil, true_and, eq_self, gt_iload_n, gt_ink, gw_nth, gt_iconst, gt_s1_0, gt_s2_0, gt_s3_0, gt_s4_0, gt_s1_1, gt_s2_1, gt_s3_1, gt_s4_1, gt_acpy, gt_iret, gt_retz, bkX10_isInnerGuest_0]
  obtain ⟨r_1, e_3, h⟩ := gw_bnd h
  refine ⟨rfl, 0, 0, hcc, hss, ok_X10_within e_3 ?_⟩
  intro hbr_1
  simp only [gt_nil, true_and, eq_self, gt_iret, gt_retz, Option.toList, List.cons_append, List.nil_append, Nat.add_zero]
  obtain rfl := gw_inj1 h
  exact ⟨hbr_1, hcc, hss, hq hbr_1⟩
def F_X10_hand (n0 : Nat) (a0 : Nat) (v1 : Int32) (μ pu : gw_M) : Option (Int32 × gw_M × Bool) := (if ¬ (μ (a0 + 1) 6) = 1 then some (0, μ, false) else (F_X10_isInnerGuest n0 v1 μ).bind (fun (r_2 : Int32) => (if r_2 = 0 then some (0, μ, false) else (if ¬ v1 = (μ (a0 + 1) 5) then (((F_X3_switchTo n0 (a0 + 1) v1 pu).bind (fun (μ_11 : gw_M) => (F_X3_dealOut n0 (a0 + 1) μ_11).bind (fun (μ_15 : gw_M) => some (1, μ_15)))).map (fun (z : Int32 × gw_M) => (z.1, z.2, true))) else some (0, μ, false)))))
theorem ok_X10_hand {l : Launch} {x : gw_C} {d mc ms : Nat} {S Sp : gw_S} {Q : Option Value → gw_S → gw_M → Prop} {v1 : Int32} {a0 n0 : Nat} {μ pu : gw_M} {r μ'} {b : Bool} (hmo : ∀ {c e : Nat}, gw_sh S c e → gw_sh Sp c e) (hpu : ∀ {Q1 : Option Value → gw_S → gw_M → Prop}, Q1 none Sp pu → gw_ok l x (d + 8) sgX5_push mc ms [.ref (a0 + 83), .ref (a0 + 1)] S μ Q1) (hS0 : gw_sh S 10 a0) (h : F_X10_hand n0 a0 v1 μ pu = some (r, μ', b)) (hq : ((r = 0 ∨ r = 1) → Q (some (.int r)) (cond b Sp S) μ')) : gw_ok l x (d + 9) sgX10_hand mc ms [.ref a0, .int v1] S μ Q := by
  refine gw_ok_of stX10_hand (lv0 := [.ref a0, .int v1]) (Nat.le_of_ble_eq_true rfl) rfl rfl ?_
  intro K hK
  have hcc : 0 ≤ mc := Nat.zero_le _
  have hss : 0 ≤ ms := Nat.zero_le _
  have ka0_0 : gw_kd S a0 = 10 := (hS0 0 _ rfl).1
  have ra0_0_0 : gw_rf S a0 0 = a0 + 1 := (hS0 0 _ rfl).2.2 (0, 1) (by decide)
  have ra0_0_1 : gw_rf S a0 1 = a0 + 83 := (hS0 0 _ rfl).2.2 (1, 83) (by decide)
  have ka0_1 : gw_kd S (a0 + 1) = 3 := (hS0 1 _ rfl).1
  have ka0_83 : gw_kd S (a0 + 83) = 5 := (hS0 83 _ rfl).1
  unfold F_X10_hand at h
  refine hK _ _ _ _ _ _ _ ?_
  rw [fdX10_hand_0]
  simp only [gt_nil, true_and, eq_self, gt_aload_n, gt_rfk, gw_nth, gt_get_r, gt_get_i, gt_get_z, gt_iconst, gt_icmp, gt_iload_n, gt_ink, gt_s1_0, gt_s2_0, gt_s3_0, gt_s4_0, gt_s1_1, gt_s2_1, gt_s3_1, gt_s4_1, gt_acpy, gt_if, bkX10_hand_0, ka0_0, ra0_0_0, ra0_0_1, ka0_1, ka0_83]
  refine ⟨fun c_1 => ?_, fun c_1 => ?_⟩
  · replace h := gw_ifp2 (gw_c2_ne _ _) h c_1
    refine hK _ _ _ _ _ _ _ ?_
    rw [fdX10_hand_29]
    simp only [gt_nil, true_and, eq_self, gt_iconst, gt_iret, gt_retz, bkX10_hand_29, ka0_0, ra0_0_0, ra0_0_1, ka0_1, ka0_83]
    obtain ⟨rfl, rfl, rfl⟩ := gw_inj3 h
    exact ⟨(Or.inl rfl), hcc, hss, hq (Or.inl rfl)⟩
  · replace h := gw_ifn2 (gw_c2_ne _ _) h c_1
    obtain ⟨r_2, e_4, h⟩ := gw_bnd h
    refine ⟨rfl, 0, 0, hcc, hss, ok_X10_isInnerGuest e_4 ?_⟩
    intro hbr_2
    simp only [gt_nil, true_and, eq_self, gt_if, gt_iload_n, gt_ink, gw_nth, gt_aload_n, gt_rfk, gt_get_r, gt_get_i, gt_get_z, gt_icmp, Option.toList, List.cons_append, List.nil_append, Nat.add_zero, ka0_0, ra0_0_0, ra0_0_1, ka0_1, ka0_83]
    refine ⟨fun c_6 => ?_, fun c_6 => ?_⟩
    · replace h := gw_ifp h c_6
      refine hK _ _ _ _ _ _ _ ?_
      rw [fdX10_hand_29]
      simp only [gt_nil, true_and, eq_self, gt_iconst, gt_iret, gt_retz, bkX10_hand_29, ka0_0, ra0_0_0, ra0_0_1, ka0_1, ka0_83]
      obtain ⟨rfl, rfl, rfl⟩ := gw_inj3 h
      exact ⟨(Or.inl rfl), hcc, hss, hq (Or.inl rfl)⟩
    · replace h := gw_ifn h c_6
      refine ⟨fun c_7 => ?_, fun c_7 => ?_⟩
      · replace h := gw_ifp2 (gw_c2_ne _ _) h c_7
        refine hK _ _ _ _ _ _ _ ?_
        rw [fdX10_hand_31]
        simp only [gt_nil, true_and, eq_self, gt_aload_n, gt_rfk, gw_nth, gt_get_r, gt_get_i, gt_get_z, gt_v0, gt_v1, gt_v2, gt_v3, gt_v4, gt_v5, gt_iload_n, gt_ink, gt_iconst, gt_iret, gt_retz, bkX10_hand_31, ka0_0, ra0_0_0, ra0_0_1, ka0_1, ka0_83]
        obtain ⟨⟨zr_8, zm_9⟩, h2, hz⟩ := gw_mp h
        clear h
        obtain ⟨rfl, rfl, rfl⟩ := gw_tup hz
        have h := h2
        replace hq : ((zr_8 = 0 ∨ zr_8 = 1) → Q (some (.int zr_8)) Sp zm_9) := hq
        refine ⟨rfl, mc, ms, Nat.le_of_eq (Nat.zero_add mc), Nat.le_of_eq (Nat.zero_add ms), hpu ?_⟩
        replace hcc : 0 + mc ≤ mc := Nat.le_of_eq (Nat.zero_add mc)
        replace hss : 0 + ms ≤ ms := Nat.le_of_eq (Nat.zero_add ms)
        have kpa0_0 : gw_kd Sp a0 = 10 := ((hmo hS0) 0 _ rfl).1
        have rpa0_0_0 : gw_rf Sp a0 0 = a0 + 1 := ((hmo hS0) 0 _ rfl).2.2 (0, 1) (by decide)
        have kpa0_1 : gw_kd Sp (a0 + 1) = 3 := ((hmo hS0) 1 _ rfl).1
        simp only [gt_nil, true_and, eq_self, gt_aload_n, gt_rfk, gw_nth, gt_get_r, gt_get_i, gt_get_z, gt_iload_n, gt_ink, gt_v0, gt_v1, gt_v2, gt_v3, gt_v4, gt_v5, gt_iconst, gt_iret, gt_retz, Option.toList, List.cons_append, List.nil_append, Nat.add_zero, kpa0_0, rpa0_0_0, kpa0_1]
        obtain ⟨μ_11, e_12, h⟩ := gw_bnd h
        refine ⟨rfl, 0, 0, hcc, hss, ok_X3_switchTo (gw_sub (hmo hS0) 3 1 (by decide +kernel)) e_12 ?_⟩
        simp only [gt_nil, true_and, eq_self, gt_aload_n, gt_rfk, gw_nth, gt_get_r, gt_get_i, gt_get_z, gt_v0, gt_v1, gt_v2, gt_v3, gt_v4, gt_v5, gt_iconst, gt_iret, gt_retz, Option.toList, List.cons_append, List.nil_append, Nat.add_zero, kpa0_0, rpa0_0_0, kpa0_1]
        obtain ⟨μ_15, e_16, h⟩ := gw_bnd h
        refine ⟨rfl, 0, 0, hcc, hss, ok_X3_dealOut (gw_sub (hmo hS0) 3 1 (by decide +kernel)) e_16 ?_⟩
        simp only [gt_nil, true_and, eq_self, gt_iconst, gt_iret, gt_retz, Option.toList, List.cons_append, List.nil_append, Nat.add_zero, kpa0_0, rpa0_0_0, kpa0_1]
        obtain ⟨rfl, rfl⟩ := gw_inj2 h
        exact ⟨(Or.inr rfl), hcc, hss, hq (Or.inr rfl)⟩
      · replace h := gw_ifn2 (gw_c2_ne _ _) h c_7
        refine hK _ _ _ _ _ _ _ ?_
        rw [fdX10_hand_29]
        simp only [gt_nil, true_and, eq_self, gt_iconst, gt_iret, gt_retz, bkX10_hand_29, ka0_0, ra0_0_0, ra0_0_1, ka0_1, ka0_83]
        obtain ⟨rfl, rfl, rfl⟩ := gw_inj3 h
        exact ⟨(Or.inl rfl), hcc, hss, hq (Or.inl rfl)⟩
def F_X10_scale (n0 : Nat) (a0 : Nat) (v1 : Int32) (v2 : Int32) (v3 : Int32) (μ pu : gw_M) : Option (Int32 × gw_M × Bool) := (F_X10_isGuest n0 v1 μ).bind (fun (r_1 : Int32) => (if r_1 = 0 then some (0, μ, false) else (F_X10_within n0 v2 1 64 μ).bind (fun (r_6 : Int32) => (if r_6 = 0 then some (0, μ, false) else (F_X10_within n0 v3 (-9999) 9999 μ).bind (fun (r_11 : Int32) => (if ¬ r_11 = 0 then (((F_X3_guest n0 (a0 + 1) v1 pu).bind (fun (r_18 : Nat) => gw_let (gw_up pu r_18 5 v2) (fun (μ_22 : gw_M) => (F_X3_guest n0 (a0 + 1) v1 μ_22).bind (fun (r_23 : Nat) => gw_let (gw_up μ_22 r_23 6 v3) (fun (μ_27 : gw_M) => (F_X3_dealOut n0 (a0 + 1) μ_27).bind (fun (μ_29 : gw_M) => some (1, μ_29))))))).map (fun (z : Int32 × gw_M) => (z.1, z.2, true))) else some (0, μ, false)))))))
theorem ok_X10_scale {l : Launch} {x : gw_C} {d mc ms : Nat} {S Sp : gw_S} {Q : Option Value → gw_S → gw_M → Prop} {v1 v2 v3 : Int32} {a0 n0 : Nat} {μ pu : gw_M} {r μ'} {b : Bool} (hmo : ∀ {c e : Nat}, gw_sh S c e → gw_sh Sp c e) (hpu : ∀ {Q1 : Option Value → gw_S → gw_M → Prop}, Q1 none Sp pu → gw_ok l x (d + 8) sgX5_push mc ms [.ref (a0 + 83), .ref (a0 + 1)] S μ Q1) (hS0 : gw_sh S 10 a0) (h : F_X10_scale n0 a0 v1 v2 v3 μ pu = some (r, μ', b)) (hq : ((r = 0 ∨ r = 1) → Q (some (.int r)) (cond b Sp S) μ')) : gw_ok l x (d + 9) sgX10_scale mc ms [.ref a0, .int v1, .int v2, .int v3] S μ Q := by
  refine gw_ok_of stX10_scale (lv0 := [.ref a0, .int v1, .int v2, .int v3]) (Nat.le_of_ble_eq_true rfl) rfl rfl ?_
  intro K hK
  have hcc : 0 ≤ mc := Nat.zero_le _
  have hss : 0 ≤ ms := Nat.zero_le _
  have ka0_0 : gw_kd S a0 = 10 := (hS0 0 _ rfl).1
  have ra0_0_0 : gw_rf S a0 0 = a0 + 1 := (hS0 0 _ rfl).2.2 (0, 1) (by decide)
  have ra0_0_1 : gw_rf S a0 1 = a0 + 83 := (hS0 0 _ rfl).2.2 (1, 83) (by decide)
  have ka0_83 : gw_kd S (a0 + 83) = 5 := (hS0 83 _ rfl).1
  unfold F_X10_scale at h
  refine hK _ _ _ _ _ _ _ ?_
  rw [fdX10_scale_0]
  simp only [gt_nil, true_and, eq_self, gt_iload_n, gt_ink, gw_nth, gt_s1_0, gt_s2_0, gt_s3_0, gt_s4_0, gt_s1_1, gt_s2_1, gt_s3_1, gt_s4_1, gt_acpy, gt_if, gt_iconst, gt_bipush, gt_sipush, bkX10_scale_0, ka0_0, ra0_0_0, ra0_0_1, ka0_83]
  obtain ⟨r_1, e_3, h⟩ := gw_bnd h
  refine ⟨rfl, 0, 0, hcc, hss, ok_X10_isGuest e_3 ?_⟩
  intro hbr_1
  simp only [gt_nil, true_and, eq_self, gt_if, gt_iload_n, gt_ink, gw_nth, gt_iconst, gt_bipush, gt_s1_0, gt_s2_0, gt_s3_0, gt_s4_0, gt_s1_1, gt_s2_1, gt_s3_1, gt_s4_1, gt_acpy, gt_sipush, Option.toList, List.cons_append, List.nil_append, Nat.add_zero, ka0_0, ra0_0_0, ra0_0_1, ka0_83]
  refine ⟨fun c_5 => ?_, fun c_5 => ?_⟩
  · replace h := gw_ifp h c_5
    refine hK _ _ _ _ _ _ _ ?_
    rw [fdX10_scale_30]
    simp only [gt_nil, true_and, eq_self, gt_iconst, gt_iret, gt_retz, bkX10_scale_30, ka0_0, ra0_0_0, ra0_0_1, ka0_83]
    obtain ⟨rfl, rfl, rfl⟩ := gw_inj3 h
    exact ⟨(Or.inl rfl), hcc, hss, hq (Or.inl rfl)⟩
  · replace h := gw_ifn h c_5
    obtain ⟨r_6, e_8, h⟩ := gw_bnd h
    refine ⟨rfl, 0, 0, hcc, hss, ok_X10_within e_8 ?_⟩
    intro hbr_6
    simp only [gt_nil, true_and, eq_self, gt_if, gt_iload_n, gt_ink, gw_nth, gt_sipush, gt_s1_0, gt_s2_0, gt_s3_0, gt_s4_0, gt_s1_1, gt_s2_1, gt_s3_1, gt_s4_1, gt_acpy, Option.toList, List.cons_append, List.nil_append, Nat.add_zero, ka0_0, ra0_0_0, ra0_0_1, ka0_83]
    refine ⟨fun c_10 => ?_, fun c_10 => ?_⟩
    · replace h := gw_ifp h c_10
      refine hK _ _ _ _ _ _ _ ?_
      rw [fdX10_scale_30]
      simp only [gt_nil, true_and, eq_self, gt_iconst, gt_iret, gt_retz, bkX10_scale_30, ka0_0, ra0_0_0, ra0_0_1, ka0_83]
      obtain ⟨rfl, rfl, rfl⟩ := gw_inj3 h
      exact ⟨(Or.inl rfl), hcc, hss, hq (Or.inl rfl)⟩
    · replace h := gw_ifn h c_10
      obtain ⟨r_11, e_13, h⟩ := gw_bnd h
      refine ⟨rfl, 0, 0, hcc, hss, ok_X10_within e_13 ?_⟩
      intro hbr_11
      simp only [gt_nil, true_and, eq_self, gt_if, Option.toList, List.cons_append, List.nil_append, Nat.add_zero, ka0_0, ra0_0_0, ra0_0_1, ka0_83]
      refine ⟨fun c_15 => ?_, fun c_15 => ?_⟩
      · replace h := gw_ifp h c_15
        refine hK _ _ _ _ _ _ _ ?_
        rw [fdX10_scale_32]
        simp only [gt_nil, true_and, eq_self, gt_aload_n, gt_rfk, gw_nth, gt_get_r, gt_get_i, gt_get_z, gt_v0, gt_v1, gt_v2, gt_v3, gt_v4, gt_v5, gt_iload_n, gt_ink, gt_put_i, gt_putz, gt_iconst, gt_iret, gt_retz, bkX10_scale_32, ka0_0, ra0_0_0, ra0_0_1, ka0_83]
        obtain ⟨⟨zr_16, zm_17⟩, h2, hz⟩ := gw_mp h
        clear h
        obtain ⟨rfl, rfl, rfl⟩ := gw_tup hz
        have h := h2
        replace hq : ((zr_16 = 0 ∨ zr_16 = 1) → Q (some (.int zr_16)) Sp zm_17) := hq
        refine ⟨rfl, mc, ms, Nat.le_of_eq (Nat.zero_add mc), Nat.le_of_eq (Nat.zero_add ms), hpu ?_⟩
        replace hcc : 0 + mc ≤ mc := Nat.le_of_eq (Nat.zero_add mc)
        replace hss : 0 + ms ≤ ms := Nat.le_of_eq (Nat.zero_add ms)
        have kpa0_0 : gw_kd Sp a0 = 10 := ((hmo hS0) 0 _ rfl).1
        have rpa0_0_0 : gw_rf Sp a0 0 = a0 + 1 := ((hmo hS0) 0 _ rfl).2.2 (0, 1) (by decide)
        have kpa0_1 : gw_kd Sp (a0 + 1) = 3 := ((hmo hS0) 1 _ rfl).1
        simp only [gt_nil, true_and, eq_self, gt_aload_n, gt_rfk, gw_nth, gt_get_r, gt_get_i, gt_get_z, gt_iload_n, gt_ink, gt_v0, gt_v1, gt_v2, gt_v3, gt_v4, gt_v5, gt_put_i, gt_putz, gt_iconst, gt_iret, gt_retz, Option.toList, List.cons_append, List.nil_append, Nat.add_zero, kpa0_0, rpa0_0_0, kpa0_1]
        obtain ⟨r_18, e_20, h⟩ := gw_bnd h
        refine ⟨rfl, 0, 0, hcc, hss, ok_X3_guest (gw_sub (hmo hS0) 3 1 (by decide +kernel)) e_20 ?_⟩
        intro hsr_18
        have kpr_18_0 : gw_kd Sp r_18 = 0 := (hsr_18 0 _ rfl).1
        simp only [gt_nil, true_and, eq_self, gt_iload_n, gt_ink, gw_nth, gt_put_i, gt_putz, gt_aload_n, gt_rfk, gt_get_r, gt_get_i, gt_get_z, gt_v0, gt_v1, gt_v2, gt_v3, gt_v4, gt_v5, gt_iconst, gt_iret, gt_retz, Option.toList, List.cons_append, List.nil_append, Nat.add_zero, kpa0_0, rpa0_0_0, kpa0_1, kpr_18_0]
        obtain ⟨μ_22, hμ_22, h⟩ := gw_lt h
        try rw [← hμ_22]
        obtain ⟨r_23, e_25, h⟩ := gw_bnd h
        refine ⟨rfl, 0, 0, hcc, hss, ok_X3_guest (gw_sub (hmo hS0) 3 1 (by decide +kernel)) e_25 ?_⟩
        intro hsr_23
        have kpr_23_0 : gw_kd Sp r_23 = 0 := (hsr_23 0 _ rfl).1
        simp only [gt_nil, true_and, eq_self, gt_iload_n, gt_ink, gw_nth, gt_put_i, gt_putz, gt_aload_n, gt_rfk, gt_get_r, gt_get_i, gt_get_z, gt_v0, gt_v1, gt_v2, gt_v3, gt_v4, gt_v5, gt_iconst, gt_iret, gt_retz, Option.toList, List.cons_append, List.nil_append, Nat.add_zero, kpa0_0, rpa0_0_0, kpa0_1, kpr_18_0, kpr_23_0]
        obtain ⟨μ_27, hμ_27, h⟩ := gw_lt h
        try rw [← hμ_27]
        obtain ⟨μ_29, e_30, h⟩ := gw_bnd h
        refine ⟨rfl, 0, 0, hcc, hss, ok_X3_dealOut (gw_sub (hmo hS0) 3 1 (by decide +kernel)) e_30 ?_⟩
        simp only [gt_nil, true_and, eq_self, gt_iconst, gt_iret, gt_retz, Option.toList, List.cons_append, List.nil_append, Nat.add_zero, kpa0_0, rpa0_0_0, kpa0_1, kpr_18_0, kpr_23_0]
        obtain ⟨rfl, rfl⟩ := gw_inj2 h
        exact ⟨(Or.inr rfl), hcc, hss, hq (Or.inr rfl)⟩
      · replace h := gw_ifn h c_15
        refine hK _ _ _ _ _ _ _ ?_
        rw [fdX10_scale_30]
        simp only [gt_nil, true_and, eq_self, gt_iconst, gt_iret, gt_retz, bkX10_scale_30, ka0_0, ra0_0_0, ra0_0_1, ka0_83]
        obtain ⟨rfl, rfl, rfl⟩ := gw_inj3 h
        exact ⟨(Or.inl rfl), hcc, hss, hq (Or.inl rfl)⟩
def F_X10_timer (n0 : Nat) (a0 : Nat) (v1 : Int32) (v2 : Int32) (v3 : Int32) (μ pu : gw_M) : Option (Int32 × gw_M × Bool) := (F_X10_within n0 v1 0 2 μ).bind (fun (r_1 : Int32) => (if r_1 = 0 then some ((-1), μ, false) else (F_X10_within n0 v2 (-99999) 999999 μ).bind (fun (r_6 : Int32) => (if r_6 = 0 then some ((-1), μ, false) else (F_X10_isVector n0 v3 μ).bind (fun (r_11 : Int32) => (if r_11 = 0 then some ((-1), μ, false) else (if (μ (a0 + 22) 3) < 12 then (((F_X9_add n0 (a0 + 22) v1 v2 v3 pu).bind (fun (μ_20 : gw_M) => (F_X3_dealOut n0 (a0 + 1) μ_20).bind (fun (μ_24 : gw_M) => some ((μ_24 (a0 + 22) 3), μ_24)))).map (fun (z : Int32 × gw_M) => (z.1, z.2, true))) else some ((-1), μ, false))))))))
theorem ok_X10_timer {l : Launch} {x : gw_C} {d mc ms : Nat} {S Sp : gw_S} {Q : Option Value → gw_S → gw_M → Prop} {v1 v2 v3 : Int32} {a0 n0 : Nat} {μ pu : gw_M} {r μ'} {b : Bool} (hmo : ∀ {c e : Nat}, gw_sh S c e → gw_sh Sp c e) (hpu : ∀ {Q1 : Option Value → gw_S → gw_M → Prop}, Q1 none Sp pu → gw_ok l x (d + 8) sgX5_push mc ms [.ref (a0 + 83), .ref (a0 + 1)] S μ Q1) (hS0 : gw_sh S 10 a0) (h : F_X10_timer n0 a0 v1 v2 v3 μ pu = some (r, μ', b)) (hq : Q (some (.int r)) (cond b Sp S) μ') : gw_ok l x (d + 9) sgX10_timer mc ms [.ref a0, .int v1, .int v2, .int v3] S μ Q := by
  refine gw_ok_of stX10_timer (lv0 := [.ref a0, .int v1, .int v2, .int v3]) (Nat.le_of_ble_eq_true rfl) rfl rfl ?_
  intro K hK
  have hcc : 0 ≤ mc := Nat.zero_le _
  have hss : 0 ≤ ms := Nat.zero_le _
  have ka0_0 : gw_kd S a0 = 10 := (hS0 0 _ rfl).1
  have ra0_0_0 : gw_rf S a0 0 = a0 + 1 := (hS0 0 _ rfl).2.2 (0, 1) (by decide)
  have ra0_0_1 : gw_rf S a0 1 = a0 + 83 := (hS0 0 _ rfl).2.2 (1, 83) (by decide)
  have ka0_1 : gw_kd S (a0 + 1) = 3 := (hS0 1 _ rfl).1
  have ra0_1_13 : gw_rf S (a0 + 1) 13 = a0 + 22 := (hS0 1 _ rfl).2.2 (13, 22) (by decide)
  have ka0_22 : gw_kd S (a0 + 22) = 9 := (hS0 22 _ rfl).1
  have ka0_83 : gw_kd S (a0 + 83) = 5 := (hS0 83 _ rfl).1
  unfold F_X10_timer at h
  refine hK _ _ _ _ _ _ _ ?_
  rw [fdX10_timer_0]
  simp only [gt_nil, true_and, eq_self, gt_iload_n, gt_ink, gw_nth, gt_iconst, gt_s1_0, gt_s2_0, gt_s3_0, gt_s4_0, gt_s1_1, gt_s2_1, gt_s3_1, gt_s4_1, gt_acpy, gt_if, gt_ldc, gt_aload_n, gt_rfk, gt_get_r, gt_get_i, gt_get_z, gt_bipush, gt_icmp, bkX10_timer_0, ka0_0, ra0_0_0, ra0_0_1, ka0_1, ra0_1_13, ka0_22, ka0_83]
  obtain ⟨r_1, e_3, h⟩ := gw_bnd h
  refine ⟨rfl, 0, 0, hcc, hss, ok_X10_within e_3 ?_⟩
  intro hbr_1
  simp only [gt_nil, true_and, eq_self, gt_if, gt_iload_n, gt_ink, gw_nth, gt_ldc, gt_s1_0, gt_s2_0, gt_s3_0, gt_s4_0, gt_s1_1, gt_s2_1, gt_s3_1, gt_s4_1, gt_acpy, gt_aload_n, gt_rfk, gt_get_r, gt_get_i, gt_get_z, gt_bipush, gt_icmp, Option.toList, List.cons_append, List.nil_append, Nat.add_zero, ka0_0, ra0_0_0, ra0_0_1, ka0_1, ra0_1_13, ka0_22, ka0_83]
  refine ⟨fun c_5 => ?_, fun c_5 => ?_⟩
  · replace h := gw_ifp h c_5
    refine hK _ _ _ _ _ _ _ ?_
    rw [fdX10_timer_42]
    simp only [gt_nil, true_and, eq_self, gt_iconst, gt_iret, gt_retz, bkX10_timer_42, ka0_0, ra0_0_0, ra0_0_1, ka0_1, ra0_1_13, ka0_22, ka0_83]
    obtain ⟨rfl, rfl, rfl⟩ := gw_inj3 h
    exact ⟨hcc, hss, hq⟩
  · replace h := gw_ifn h c_5
    obtain ⟨r_6, e_8, h⟩ := gw_bnd h
    refine ⟨rfl, 0, 0, hcc, hss, ok_X10_within e_8 ?_⟩
    intro hbr_6
    simp only [gt_nil, true_and, eq_self, gt_if, gt_iload_n, gt_ink, gw_nth, gt_s1_0, gt_s2_0, gt_s3_0, gt_s4_0, gt_s1_1, gt_s2_1, gt_s3_1, gt_s4_1, gt_acpy, gt_aload_n, gt_rfk, gt_get_r, gt_get_i, gt_get_z, gt_bipush, gt_icmp, Option.toList, List.cons_append, List.nil_append, Nat.add_zero, ka0_0, ra0_0_0, ra0_0_1, ka0_1, ra0_1_13, ka0_22, ka0_83]
    refine ⟨fun c_10 => ?_, fun c_10 => ?_⟩
    · replace h := gw_ifp h c_10
      refine hK _ _ _ _ _ _ _ ?_
      rw [fdX10_timer_42]
      simp only [gt_nil, true_and, eq_self, gt_iconst, gt_iret, gt_retz, bkX10_timer_42, ka0_0, ra0_0_0, ra0_0_1, ka0_1, ra0_1_13, ka0_22, ka0_83]
      obtain ⟨rfl, rfl, rfl⟩ := gw_inj3 h
      exact ⟨hcc, hss, hq⟩
    · replace h := gw_ifn h c_10
      obtain ⟨r_11, e_13, h⟩ := gw_bnd h
      refine ⟨rfl, 0, 0, hcc, hss, ok_X10_isVector e_13 ?_⟩
      intro hbr_11
      simp only [gt_nil, true_and, eq_self, gt_if, gt_aload_n, gt_rfk, gw_nth, gt_get_r, gt_get_i, gt_get_z, gt_bipush, gt_icmp, Option.toList, List.cons_append, List.nil_append, Nat.add_zero, ka0_0, ra0_0_0, ra0_0_1, ka0_1, ra0_1_13, ka0_22, ka0_83]
      refine ⟨fun c_15 => ?_, fun c_15 => ?_⟩
      · replace h := gw_ifp h c_15
        refine hK _ _ _ _ _ _ _ ?_
        rw [fdX10_timer_42]
        simp only [gt_nil, true_and, eq_self, gt_iconst, gt_iret, gt_retz, bkX10_timer_42, ka0_0, ra0_0_0, ra0_0_1, ka0_1, ra0_1_13, ka0_22, ka0_83]
        obtain ⟨rfl, rfl, rfl⟩ := gw_inj3 h
        exact ⟨hcc, hss, hq⟩
      · replace h := gw_ifn h c_15
        refine ⟨fun c_16 => ?_, fun c_16 => ?_⟩
        · replace h := gw_ifp2 (gw_c2_lt _ _) h c_16
          refine hK _ _ _ _ _ _ _ ?_
          rw [fdX10_timer_44]
          simp only [gt_nil, true_and, eq_self, gt_aload_n, gt_rfk, gw_nth, gt_get_r, gt_get_i, gt_get_z, gt_v0, gt_v1, gt_v2, gt_v3, gt_v4, gt_v5, gt_iload_n, gt_ink, gt_iret, gt_retz, bkX10_timer_44, ka0_0, ra0_0_0, ra0_0_1, ka0_1, ra0_1_13, ka0_22, ka0_83]
          obtain ⟨⟨zr_17, zm_18⟩, h2, hz⟩ := gw_mp h
          clear h
          obtain ⟨rfl, rfl, rfl⟩ := gw_tup hz
          have h := h2
          replace hq : Q (some (.int zr_17)) Sp zm_18 := hq
          refine ⟨rfl, mc, ms, Nat.le_of_eq (Nat.zero_add mc), Nat.le_of_eq (Nat.zero_add ms), hpu ?_⟩
          replace hcc : 0 + mc ≤ mc := Nat.le_of_eq (Nat.zero_add mc)
          replace hss : 0 + ms ≤ ms := Nat.le_of_eq (Nat.zero_add ms)
          have kpa0_0 : gw_kd Sp a0 = 10 := ((hmo hS0) 0 _ rfl).1
          have rpa0_0_0 : gw_rf Sp a0 0 = a0 + 1 := ((hmo hS0) 0 _ rfl).2.2 (0, 1) (by decide)
          have kpa0_1 : gw_kd Sp (a0 + 1) = 3 := ((hmo hS0) 1 _ rfl).1
          have rpa0_1_13 : gw_rf Sp (a0 + 1) 13 = a0 + 22 := ((hmo hS0) 1 _ rfl).2.2 (13, 22) (by decide)
          have kpa0_22 : gw_kd Sp (a0 + 22) = 9 := ((hmo hS0) 22 _ rfl).1
          simp only [gt_nil, true_and, eq_self, gt_aload_n, gt_rfk, gw_nth, gt_get_r, gt_get_i, gt_get_z, gt_iload_n, gt_ink, gt_v0, gt_v1, gt_v2, gt_v3, gt_v4, gt_v5, gt_iret, gt_retz, Option.toList, List.cons_append, List.nil_append, Nat.add_zero, kpa0_0, rpa0_0_0, kpa0_1, rpa0_1_13, kpa0_22]
          obtain ⟨μ_20, e_21, h⟩ := gw_bnd h
          refine ⟨rfl, 0, 0, hcc, hss, ok_X9_add (gw_sub (hmo hS0) 9 22 (by decide +kernel)) e_21 ?_⟩
          simp only [gt_nil, true_and, eq_self, gt_aload_n, gt_rfk, gw_nth, gt_get_r, gt_get_i, gt_get_z, gt_v0, gt_v1, gt_v2, gt_v3, gt_v4, gt_v5, gt_iret, gt_retz, Option.toList, List.cons_append, List.nil_append, Nat.add_zero, kpa0_0, rpa0_0_0, kpa0_1, rpa0_1_13, kpa0_22]
          obtain ⟨μ_24, e_25, h⟩ := gw_bnd h
          refine ⟨rfl, 0, 0, hcc, hss, ok_X3_dealOut (gw_sub (hmo hS0) 3 1 (by decide +kernel)) e_25 ?_⟩
          simp only [gt_nil, true_and, eq_self, gt_aload_n, gt_rfk, gw_nth, gt_get_r, gt_get_i, gt_get_z, gt_iret, gt_retz, Option.toList, List.cons_append, List.nil_append, Nat.add_zero, kpa0_0, rpa0_0_0, kpa0_1, rpa0_1_13, kpa0_22]
          obtain ⟨rfl, rfl⟩ := gw_inj2 h
          exact ⟨hcc, hss, hq⟩
        · replace h := gw_ifn2 (gw_c2_lt _ _) h c_16
          refine hK _ _ _ _ _ _ _ ?_
          rw [fdX10_timer_42]
          simp only [gt_nil, true_and, eq_self, gt_iconst, gt_iret, gt_retz, bkX10_timer_42, ka0_0, ra0_0_0, ra0_0_1, ka0_1, ra0_1_13, ka0_22, ka0_83]
          obtain ⟨rfl, rfl, rfl⟩ := gw_inj3 h
          exact ⟨hcc, hss, hq⟩
def F_X10_cancel (n0 : Nat) (a0 : Nat) (v1 : Int32) (μ pu : gw_M) : Option (Int32 × gw_M × Bool) := (F_X10_within n0 v1 0 ((μ (a0 + 22) 3) - (1 : Int32)) μ).bind (fun (r_1 : Int32) => (if ¬ r_1 = 0 then (((F_X9_removeAt n0 (a0 + 22) v1 pu).bind (fun (μ_9 : gw_M) => (F_X3_dealOut n0 (a0 + 1) μ_9).bind (fun (μ_13 : gw_M) => some (1, μ_13)))).map (fun (z : Int32 × gw_M) => (z.1, z.2, true))) else some (0, μ, false)))
theorem ok_X10_cancel {l : Launch} {x : gw_C} {d mc ms : Nat} {S Sp : gw_S} {Q : Option Value → gw_S → gw_M → Prop} {v1 : Int32} {a0 n0 : Nat} {μ pu : gw_M} {r μ'} {b : Bool} (hmo : ∀ {c e : Nat}, gw_sh S c e → gw_sh Sp c e) (hpu : ∀ {Q1 : Option Value → gw_S → gw_M → Prop}, Q1 none Sp pu → gw_ok l x (d + 8) sgX5_push mc ms [.ref (a0 + 83), .ref (a0 + 1)] S μ Q1) (hS0 : gw_sh S 10 a0) (h : F_X10_cancel n0 a0 v1 μ pu = some (r, μ', b)) (hq : ((r = 0 ∨ r = 1) → Q (some (.int r)) (cond b Sp S) μ')) : gw_ok l x (d + 9) sgX10_cancel mc ms [.ref a0, .int v1] S μ Q := by
  refine gw_ok_of stX10_cancel (lv0 := [.ref a0, .int v1]) (Nat.le_of_ble_eq_true rfl) rfl rfl ?_
  intro K hK
  have hcc : 0 ≤ mc := Nat.zero_le _
  have hss : 0 ≤ ms := Nat.zero_le _
  have ka0_0 : gw_kd S a0 = 10 := (hS0 0 _ rfl).1
  have ra0_0_0 : gw_rf S a0 0 = a0 + 1 := (hS0 0 _ rfl).2.2 (0, 1) (by decide)
  have ra0_0_1 : gw_rf S a0 1 = a0 + 83 := (hS0 0 _ rfl).2.2 (1, 83) (by decide)
  have ka0_1 : gw_kd S (a0 + 1) = 3 := (hS0 1 _ rfl).1
  have ra0_1_13 : gw_rf S (a0 + 1) 13 = a0 + 22 := (hS0 1 _ rfl).2.2 (13, 22) (by decide)
  have ka0_22 : gw_kd S (a0 + 22) = 9 := (hS0 22 _ rfl).1
  have ka0_83 : gw_kd S (a0 + 83) = 5 := (hS0 83 _ rfl).1
  unfold F_X10_cancel at h
  refine hK _ _ _ _ _ _ _ ?_
  rw [fdX10_cancel_0]
  simp only [gt_nil, true_and, eq_self, gt_iload_n, gt_ink, gw_nth, gt_iconst, gt_aload_n, gt_rfk, gt_get_r, gt_get_i, gt_get_z, gt_isub, gt_s1_0, gt_s2_0, gt_s3_0, gt_s4_0, gt_s1_1, gt_s2_1, gt_s3_1, gt_s4_1, gt_acpy, gt_if, gt_iret, gt_retz, bkX10_cancel_0, ka0_0, ra0_0_0, ra0_0_1, ka0_1, ra0_1_13, ka0_22, ka0_83]
  obtain ⟨r_1, e_3, h⟩ := gw_bnd h
  refine ⟨rfl, 0, 0, hcc, hss, ok_X10_within e_3 ?_⟩
  intro hbr_1
  simp only [gt_nil, true_and, eq_self, gt_if, gt_iconst, gt_iret, gt_retz, Option.toList, List.cons_append, List.nil_append, Nat.add_zero, ka0_0, ra0_0_0, ra0_0_1, ka0_1, ra0_1_13, ka0_22, ka0_83]
  refine ⟨fun c_5 => ?_, fun c_5 => ?_⟩
  · replace h := gw_ifp h c_5
    refine hK _ _ _ _ _ _ _ ?_
    rw [fdX10_cancel_22]
    simp only [gt_nil, true_and, eq_self, gt_aload_n, gt_rfk, gw_nth, gt_get_r, gt_get_i, gt_get_z, gt_v0, gt_v1, gt_v2, gt_v3, gt_v4, gt_v5, gt_iload_n, gt_ink, gt_iconst, gt_iret, gt_retz, bkX10_cancel_22, ka0_0, ra0_0_0, ra0_0_1, ka0_1, ra0_1_13, ka0_22, ka0_83]
    obtain ⟨⟨zr_6, zm_7⟩, h2, hz⟩ := gw_mp h
    clear h
    obtain ⟨rfl, rfl, rfl⟩ := gw_tup hz
    have h := h2
    replace hq : ((zr_6 = 0 ∨ zr_6 = 1) → Q (some (.int zr_6)) Sp zm_7) := hq
    refine ⟨rfl, mc, ms, Nat.le_of_eq (Nat.zero_add mc), Nat.le_of_eq (Nat.zero_add ms), hpu ?_⟩
    replace hcc : 0 + mc ≤ mc := Nat.le_of_eq (Nat.zero_add mc)
    replace hss : 0 + ms ≤ ms := Nat.le_of_eq (Nat.zero_add ms)
    have kpa0_0 : gw_kd Sp a0 = 10 := ((hmo hS0) 0 _ rfl).1
    have rpa0_0_0 : gw_rf Sp a0 0 = a0 + 1 := ((hmo hS0) 0 _ rfl).2.2 (0, 1) (by decide)
    have kpa0_1 : gw_kd Sp (a0 + 1) = 3 := ((hmo hS0) 1 _ rfl).1
    have rpa0_1_13 : gw_rf Sp (a0 + 1) 13 = a0 + 22 := ((hmo hS0) 1 _ rfl).2.2 (13, 22) (by decide)
    have kpa0_22 : gw_kd Sp (a0 + 22) = 9 := ((hmo hS0) 22 _ rfl).1
    simp only [gt_nil, true_and, eq_self, gt_aload_n, gt_rfk, gw_nth, gt_get_r, gt_get_i, gt_get_z, gt_iload_n, gt_ink, gt_v0, gt_v1, gt_v2, gt_v3, gt_v4, gt_v5, gt_iconst, gt_iret, gt_retz, Option.toList, List.cons_append, List.nil_append, Nat.add_zero, kpa0_0, rpa0_0_0, kpa0_1, rpa0_1_13, kpa0_22]
    obtain ⟨μ_9, e_10, h⟩ := gw_bnd h
    refine ⟨rfl, 0, 0, hcc, hss, ok_X9_removeAt (gw_sub (hmo hS0) 9 22 (by decide +kernel)) e_10 ?_⟩
    simp only [gt_nil, true_and, eq_self, gt_aload_n, gt_rfk, gw_nth, gt_get_r, gt_get_i, gt_get_z, gt_v0, gt_v1, gt_v2, gt_v3, gt_v4, gt_v5, gt_iconst, gt_iret, gt_retz, Option.toList, List.cons_append, List.nil_append, Nat.add_zero, kpa0_0, rpa0_0_0, kpa0_1, rpa0_1_13, kpa0_22]
    obtain ⟨μ_13, e_14, h⟩ := gw_bnd h
    refine ⟨rfl, 0, 0, hcc, hss, ok_X3_dealOut (gw_sub (hmo hS0) 3 1 (by decide +kernel)) e_14 ?_⟩
    simp only [gt_nil, true_and, eq_self, gt_iconst, gt_iret, gt_retz, Option.toList, List.cons_append, List.nil_append, Nat.add_zero, kpa0_0, rpa0_0_0, kpa0_1, rpa0_1_13, kpa0_22]
    obtain ⟨rfl, rfl⟩ := gw_inj2 h
    exact ⟨(Or.inr rfl), hcc, hss, hq (Or.inr rfl)⟩
  · replace h := gw_ifn h c_5
    obtain ⟨rfl, rfl, rfl⟩ := gw_inj3 h
    exact ⟨(Or.inl rfl), hcc, hss, hq (Or.inl rfl)⟩
def F_X10_mayHaveHandler_22 (n0 : Nat) (μ : gw_M) : Option (Int32) := some 1
def F_X10_mayHaveHandler (n0 : Nat) (v0 : Int32) (μ : gw_M) : Option (Int32) := (if v0 = 1 then F_X10_mayHaveHandler_22 n0 μ else (if v0 = 4 then F_X10_mayHaveHandler_22 n0 μ else (if v0 = 6 then F_X10_mayHaveHandler_22 n0 μ else (if ¬ v0 = 8 then some 0 else F_X10_mayHaveHandler_22 n0 μ))))
theorem B_X10_mayHaveHandler_22 {l : Launch} {x : gw_C} {d : Nat} {S : gw_S} {Q : Option Value → gw_S → gw_M → Prop} {K : Nat → gw_Kt} {mc ms cc ss : Nat} (hcc : cc ≤ mc) (hss : ss ≤ ms) (hK : gw_cl l x (d + 0) mc ms bsX10_mayHaveHandler Q K) {n0 : Nat}  {u0 : Value} {μ : gw_M} {r} (h : F_X10_mayHaveHandler_22 n0 μ = some r) (hq : ((r = 0 ∨ r = 1) → Q (some (.int r)) S μ)) : K 22 [u0] [] S μ cc ss := by
  unfold F_X10_mayHaveHandler_22 at h
  refine hK _ _ _ _ _ _ _ ?_
  rw [fdX10_mayHaveHandler_22]
  simp only [gt_nil, true_and, eq_self, gt_iconst, gt_goto, bkX10_mayHaveHandler_22]
  refine hK _ _ _ _ _ _ _ ?_
  rw [fdX10_mayHaveHandler_27]
  simp only [gt_nil, true_and, eq_self, gt_iret, gt_retz, bkX10_mayHaveHandler_27]
  obtain rfl := gw_inj1 h
  exact ⟨(Or.inr rfl), hcc, hss, hq (Or.inr rfl)⟩
theorem ok_X10_mayHaveHandler {l : Launch} {x : gw_C} {d : Nat} {S : gw_S} {Q : Option Value → gw_S → gw_M → Prop} {v0 : Int32} {n0 : Nat} {μ : gw_M} {r} (h : F_X10_mayHaveHandler n0 v0 μ = some r) (hq : ((r = 0 ∨ r = 1) → Q (some (.int r)) S μ)) : gw_ok l x (d + 1) sgX10_mayHaveHandler 0 0 [.int v0] S μ Q := by
  refine gw_ok_of stX10_mayHaveHandler (lv0 := [.int v0]) (Nat.le_of_ble_eq_true rfl) rfl rfl ?_
  intro K hK
  have hcc : 0 ≤ 0 := Nat.zero_le _
  have hss : 0 ≤ 0 := Nat.zero_le _
  unfold F_X10_mayHaveHandler at h
  refine hK _ _ _ _ _ _ _ ?_
  rw [fdX10_mayHaveHandler_0]
  simp only [gt_nil, true_and, eq_self, gt_iload_n, gt_ink, gw_nth, gt_iconst, gt_icmp, gt_bipush, bkX10_mayHaveHandler_0]
  refine ⟨fun c_1 => ?_, fun c_1 => ?_⟩
  · replace h := gw_ifp2 (gw_c2_eq _ _) h c_1
    exact B_X10_mayHaveHandler_22 hcc hss hK h hq
  · replace h := gw_ifn2 (gw_c2_eq _ _) h c_1
    refine ⟨fun c_2 => ?_, fun c_2 => ?_⟩
    · replace h := gw_ifp2 (gw_c2_eq _ _) h c_2
      exact B_X10_mayHaveHandler_22 hcc hss hK h hq
    · replace h := gw_ifn2 (gw_c2_eq _ _) h c_2
      refine ⟨fun c_3 => ?_, fun c_3 => ?_⟩
      · replace h := gw_ifp2 (gw_c2_eq _ _) h c_3
        exact B_X10_mayHaveHandler_22 hcc hss hK h hq
      · replace h := gw_ifn2 (gw_c2_eq _ _) h c_3
        refine ⟨fun c_4 => ?_, fun c_4 => ?_⟩
        · replace h := gw_ifp2 (gw_c2_ne _ _) h c_4
          refine hK _ _ _ _ _ _ _ ?_
          rw [fdX10_mayHaveHandler_26]
          simp only [gt_nil, true_and, eq_self, gt_iconst, bkX10_mayHaveHandler_26]
          refine hK _ _ _ _ _ _ _ ?_
          rw [fdX10_mayHaveHandler_27]
          simp only [gt_nil, true_and, eq_self, gt_iret, gt_retz, bkX10_mayHaveHandler_27]
          obtain rfl := gw_inj1 h
          exact ⟨(Or.inl rfl), hcc, hss, hq (Or.inl rfl)⟩
        · replace h := gw_ifn2 (gw_c2_ne _ _) h c_4
          exact B_X10_mayHaveHandler_22 hcc hss hK h hq
