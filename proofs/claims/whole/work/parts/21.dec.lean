def F_X3_goOn (n0 : Nat) (a0 : Nat) (μ : gw_M) : Option (gw_M) := (F_X3_timeGoesOn n0 a0 μ).bind (fun (z_4 : Int32 × gw_M) => (F_X3_dealOut n0 a0 z_4.2).bind (fun (μ_6 : gw_M) => (if ¬ (μ_6 a0 6) = 1 then (F_X3_actOfInner n0 a0 μ_6).bind (fun (μ_11 : gw_M) => (F_X3_dealOut n0 a0 μ_11).bind (fun (μ_15 : gw_M) => some μ_15)) else (F_X3_actOfOuter n0 a0 μ_6).bind (fun (μ_19 : gw_M) => (F_X3_dealOut n0 a0 μ_19).bind (fun (μ_23 : gw_M) => some μ_23)))))
theorem ok_X3_goOn {l : Launch} {x : gw_C} {d : Nat} {S : gw_S} {Q : Option Value → gw_S → gw_M → Prop} {a0 : Nat} {n0 : Nat} {μ : gw_M} {μ'} (hS0 : gw_sh S 3 a0) (h : F_X3_goOn n0 a0 μ = some μ') (hq : Q none S μ') : gw_ok l x (d + 6) sgX3_goOn 0 0 [.ref a0] S μ Q := by
  refine gw_ok_of stX3_goOn (lv0 := [.ref a0]) (Nat.le_of_ble_eq_true rfl) rfl rfl ?_
  intro K hK
  have ka0_0 : gw_kd S a0 = 3 := (hS0 0 _ rfl).1
  unfold F_X3_goOn at h
  refine hK _ _ _ _ _ _ _ ?_
  rw [fdX3_goOn_0]
  simp only [gt_nil, true_and, eq_self, gt_aload_n, gt_rfk, gw_nth, gt_v0, gt_v1, gt_v2, gt_v3, gt_v4, gt_v5, gt_pop_i, gt_pop_r, gt_get_r, gt_get_i, gt_get_z, gt_iconst, gt_icmp, gt_goto, bkX3_goOn_0, ka0_0]
  obtain ⟨⟨r_1, μ_2⟩, e_3, h⟩ := gw_bnd h
  refine ⟨rfl, 0, 0, Nat.le_refl _, Nat.le_refl _, ok_X3_timeGoesOn hS0 e_3 ?_⟩
  dsimp only at h
  simp only [gt_nil, true_and, eq_self, gt_pop_i, gt_pop_r, gt_aload_n, gt_rfk, gw_nth, gt_v0, gt_v1, gt_v2, gt_v3, gt_v4, gt_v5, gt_get_r, gt_get_i, gt_get_z, gt_iconst, gt_icmp, gt_goto, Option.toList, List.cons_append, List.nil_append, Nat.add_zero, ka0_0]
  obtain ⟨μ_6, e_7, h⟩ := gw_bnd h
  refine ⟨rfl, 0, 0, Nat.le_refl _, Nat.le_refl _, ok_X3_dealOut hS0 e_7 ?_⟩
  simp only [gt_nil, true_and, eq_self, gt_aload_n, gt_rfk, gw_nth, gt_get_r, gt_get_i, gt_get_z, gt_iconst, gt_icmp, gt_v0, gt_v1, gt_v2, gt_v3, gt_v4, gt_v5, gt_goto, Option.toList, List.cons_append, List.nil_append, Nat.add_zero, ka0_0]
  refine ⟨fun c_9 => ?_, fun c_9 => ?_⟩
  · replace h := gw_ifp h c_9
    refine hK _ _ _ _ _ _ _ ?_
    rw [fdX3_goOn_24]
    simp only [gt_nil, true_and, eq_self, gt_aload_n, gt_rfk, gw_nth, gt_v0, gt_v1, gt_v2, gt_v3, gt_v4, gt_v5, bkX3_goOn_24, ka0_0]
    obtain ⟨μ_11, e_12, h⟩ := gw_bnd h
    refine ⟨rfl, 0, 0, Nat.le_refl _, Nat.le_refl _, ok_X3_actOfInner hS0 e_12 ?_⟩
    simp only [gt_nil, true_and, eq_self, Option.toList, List.cons_append, List.nil_append, Nat.add_zero, ka0_0]
    refine hK _ _ _ _ _ _ _ ?_
    rw [fdX3_goOn_28]
    simp only [gt_nil, true_and, eq_self, gt_aload_n, gt_rfk, gw_nth, gt_v0, gt_v1, gt_v2, gt_v3, gt_v4, gt_v5, gt_vret, bkX3_goOn_28, ka0_0]
    obtain ⟨μ_15, e_16, h⟩ := gw_bnd h
    refine ⟨rfl, 0, 0, Nat.le_refl _, Nat.le_refl _, ok_X3_dealOut hS0 e_16 ?_⟩
    simp only [gt_nil, true_and, eq_self, gt_vret, Option.toList, List.cons_append, List.nil_append, Nat.add_zero, ka0_0]
    cases h
    exact ⟨Nat.le_refl _, Nat.le_refl _, hq⟩
  · replace h := gw_ifn h c_9
    obtain ⟨μ_19, e_20, h⟩ := gw_bnd h
    refine ⟨rfl, 0, 0, Nat.le_refl _, Nat.le_refl _, ok_X3_actOfOuter hS0 e_20 ?_⟩
    simp only [gt_nil, true_and, eq_self, gt_goto, Option.toList, List.cons_append, List.nil_append, Nat.add_zero, ka0_0]
    refine hK _ _ _ _ _ _ _ ?_
    rw [fdX3_goOn_28]
    simp only [gt_nil, true_and, eq_self, gt_aload_n, gt_rfk, gw_nth, gt_v0, gt_v1, gt_v2, gt_v3, gt_v4, gt_v5, gt_vret, bkX3_goOn_28, ka0_0]
    obtain ⟨μ_23, e_24, h⟩ := gw_bnd h
    refine ⟨rfl, 0, 0, Nat.le_refl _, Nat.le_refl _, ok_X3_dealOut hS0 e_24 ?_⟩
    simp only [gt_nil, true_and, eq_self, gt_vret, Option.toList, List.cons_append, List.nil_append, Nat.add_zero, ka0_0]
    cases h
    exact ⟨Nat.le_refl _, Nat.le_refl _, hq⟩
def F_X3_walkTables (n0 : Nat) (a0 : Nat) (v1 : Int32) (v2 : Int32) (μ : gw_M) : Option (Int32 × gw_M) := (F_X3_inHand n0 a0 μ).bind (fun (z_4 : Nat × gw_M) => (F_X8_gives n0 (z_4.1 + 7) v1 v2 z_4.2).bind (fun (z_8 : Int32 × gw_M) => (if ¬ z_8.1 = 0 then (F_X3_inHand n0 a0 z_8.2).bind (fun (z_13 : Nat × gw_M) => (if 0 ≤ v1 ∧ v1.toNatClampNeg < 16 then gw_let ((z_13.2 (z_4.1 + 8) v1.toNatClampNeg)) (fun (w_15 : Int32) => (F_X8_gives n0 (z_13.1 + 11) w_15 v2 z_13.2).bind (fun (z_19 : Int32 × gw_M) => (if ¬ z_19.1 = 0 then (if 0 ≤ w_15 ∧ w_15.toNatClampNeg < 16 then gw_let ((z_19.2 (z_13.1 + 12) w_15.toNatClampNeg)) (fun (w_22 : Int32) => (F_X4_rightsGiven n0 (a0 + 1) w_22 z_19.2).bind (fun (z_26 : Int32 × gw_M) => (F_X10_hasBit n0 z_26.1 v2 z_26.2).bind (fun (z_30 : Int32 × gw_M) => (if z_30.1 = 0 then some ((-4), z_30.2) else (if 0 ≤ w_22 ∧ w_22.toNatClampNeg < 16 then some ((z_30.2 (a0 + 3) w_22.toNatClampNeg), z_30.2) else none))))) else none) else some ((-3), z_19.2)))) else none)) else some ((-2), z_8.2))))
theorem ok_X3_walkTables {l : Launch} {x : gw_C} {d : Nat} {S : gw_S} {Q : Option Value → gw_S → gw_M → Prop} {v1 v2 : Int32} {a0 : Nat} {n0 : Nat} {μ : gw_M} {r μ'} (hS0 : gw_sh S 3 a0) (h : F_X3_walkTables n0 a0 v1 v2 μ = some (r, μ')) (hq : Q (some (.int r)) S μ') : gw_ok l x (d + 3) sgX3_walkTables 0 0 [.ref a0, .int v1, .int v2] S μ Q := by
  refine gw_ok_of stX3_walkTables (lv0 := [.ref a0, .int v1, .int v2, .retAddr 0, .retAddr 0, .retAddr 0, .retAddr 0]) (Nat.le_of_ble_eq_true rfl) rfl rfl ?_
  intro K hK
  have ka0_0 : gw_kd S a0 = 3 := (hS0 0 _ rfl).1
  have ra0_0_0 : gw_rf S a0 0 = a0 + 1 := (hS0 0 _ rfl).2.2 (0, 1) (by decide)
  have ka0_1 : gw_kd S (a0 + 1) = 4 := (hS0 1 _ rfl).1
  have ra0_1_0 : gw_rf S (a0 + 1) 0 = a0 + 2 := (hS0 1 _ rfl).2.2 (0, 2) (by decide)
  have ka0_2 : gw_kd S (a0 + 2) = 8 := (hS0 2 _ rfl).1
  have ra0_2_0 : gw_rf S (a0 + 2) 0 = a0 + 3 := (hS0 2 _ rfl).2.2 (0, 3) (by decide)
  have ka0_3 : gw_kd S (a0 + 3) = 12 := (hS0 3 _ rfl).1
  have la0_3 : gw_ln S (a0 + 3) = 16 := (hS0 3 _ rfl).2.1
  unfold F_X3_walkTables at h
  refine hK _ _ _ _ _ _ _ ?_
  rw [fdX3_walkTables_0]
  simp only [gt_nil, true_and, eq_self, gt_aload_n, gt_rfk, gw_nth, gt_v0, gt_v1, gt_v2, gt_v3, gt_v4, gt_v5, gt_get_r, gt_get_i, gt_get_z, gt_astore_n, gw_set, gt_iload_n, gt_ink, gt_if, gt_bipush, gt_iret, gt_retz, bkX3_walkTables_0, ka0_0, ra0_0_0, ka0_1, ra0_1_0, ka0_2, ra0_2_0, ka0_3, la0_3]
  obtain ⟨⟨r_1, μ_2⟩, e_3, h⟩ := gw_bnd h
  refine ⟨rfl, 0, 0, Nat.le_refl _, Nat.le_refl _, ok_X3_inHand hS0 e_3 ?_⟩
  intro hsr_1
  have kr_1_0 : gw_kd S r_1 = 1 := (hsr_1 0 _ rfl).1
  have rr_1_0_1 : gw_rf S r_1 1 = r_1 + 7 := (hsr_1 0 _ rfl).2.2 (1, 7) (by decide)
  have kr_1_7 : gw_kd S (r_1 + 7) = 8 := (hsr_1 7 _ rfl).1
  have rr_1_7_0 : gw_rf S (r_1 + 7) 0 = r_1 + 8 := (hsr_1 7 _ rfl).2.2 (0, 8) (by decide)
  have kr_1_8 : gw_kd S (r_1 + 8) = 12 := (hsr_1 8 _ rfl).1
  have lr_1_8 : gw_ln S (r_1 + 8) = 16 := (hsr_1 8 _ rfl).2.1
  dsimp only at h
  simp only [gt_nil, true_and, eq_self, gt_get_r, gt_get_i, gt_get_z, gt_astore_n, gw_set, gt_aload_n, gt_rfk, gw_nth, gt_iload_n, gt_ink, gt_v0, gt_v1, gt_v2, gt_v3, gt_v4, gt_v5, gt_if, gt_bipush, gt_iret, gt_retz, Option.toList, List.cons_append, List.nil_append, Nat.add_zero, ka0_0, ra0_0_0, ka0_1, ra0_1_0, ka0_2, ra0_2_0, ka0_3, la0_3, kr_1_0, rr_1_0_1, kr_1_7, rr_1_7_0, kr_1_8, lr_1_8]
  obtain ⟨⟨r_5, μ_6⟩, e_7, h⟩ := gw_bnd h
  refine ⟨rfl, 0, 0, Nat.le_refl _, Nat.le_refl _, ok_X8_gives (gw_sub hsr_1 8 7 (by decide +kernel)) e_7 ?_⟩
  intro hbr_5
  dsimp only at h
  simp only [gt_nil, true_and, eq_self, gt_if, gt_bipush, gt_iret, gt_retz, Option.toList, List.cons_append, List.nil_append, Nat.add_zero, ka0_0, ra0_0_0, ka0_1, ra0_1_0, ka0_2, ra0_2_0, ka0_3, la0_3, kr_1_0, rr_1_0_1, kr_1_7, rr_1_7_0, kr_1_8, lr_1_8]
  refine ⟨fun c_9 => ?_, fun c_9 => ?_⟩
  · replace h := gw_ifp h c_9
    refine hK _ _ _ _ _ _ _ ?_
    rw [fdX3_walkTables_20]
    simp only [gt_nil, true_and, eq_self, gt_aload_n, gt_rfk, gw_nth, gt_v0, gt_v1, gt_v2, gt_v3, gt_v4, gt_v5, gt_get_r, gt_get_i, gt_get_z, gt_astore, gw_set, gt_iload_n, gt_ink, gt_iaload, gt_istore, gt_aload, gt_iload, gt_if, gt_bipush, gt_iret, gt_retz, bkX3_walkTables_20, ka0_0, ra0_0_0, ka0_1, ra0_1_0, ka0_2, ra0_2_0, ka0_3, la0_3, kr_1_0, rr_1_0_1, kr_1_7, rr_1_7_0, kr_1_8, lr_1_8]
    obtain ⟨⟨r_10, μ_11⟩, e_12, h⟩ := gw_bnd h
    refine ⟨rfl, 0, 0, Nat.le_refl _, Nat.le_refl _, ok_X3_inHand hS0 e_12 ?_⟩
    intro hsr_10
    have kr_10_0 : gw_kd S r_10 = 1 := (hsr_10 0 _ rfl).1
    have rr_10_0_2 : gw_rf S r_10 2 = r_10 + 11 := (hsr_10 0 _ rfl).2.2 (2, 11) (by decide)
    have kr_10_11 : gw_kd S (r_10 + 11) = 8 := (hsr_10 11 _ rfl).1
    have rr_10_11_0 : gw_rf S (r_10 + 11) 0 = r_10 + 12 := (hsr_10 11 _ rfl).2.2 (0, 12) (by decide)
    have kr_10_12 : gw_kd S (r_10 + 12) = 12 := (hsr_10 12 _ rfl).1
    have lr_10_12 : gw_ln S (r_10 + 12) = 16 := (hsr_10 12 _ rfl).2.1
    dsimp only at h
    simp only [gt_nil, true_and, eq_self, gt_get_r, gt_get_i, gt_get_z, gt_astore, gw_set, gt_aload_n, gt_rfk, gw_nth, gt_iload_n, gt_ink, gt_iaload, gt_istore, gt_aload, gt_iload, gt_v0, gt_v1, gt_v2, gt_v3, gt_v4, gt_v5, gt_if, gt_bipush, gt_iret, gt_retz, Option.toList, List.cons_append, List.nil_append, Nat.add_zero, ka0_0, ra0_0_0, ka0_1, ra0_1_0, ka0_2, ra0_2_0, ka0_3, la0_3, kr_1_0, rr_1_0_1, kr_1_7, rr_1_7_0, kr_1_8, lr_1_8, kr_10_0, rr_10_0_2, kr_10_11, rr_10_11_0, kr_10_12, lr_10_12]
    obtain ⟨c_14, h⟩ := gw_ife h
    refine ⟨c_14, ?_⟩
    obtain ⟨w_15, hw_15, h⟩ := gw_lt h
    try rw [← hw_15]
    obtain ⟨⟨r_16, μ_17⟩, e_18, h⟩ := gw_bnd h
    refine ⟨rfl, 0, 0, Nat.le_refl _, Nat.le_refl _, ok_X8_gives (gw_sub hsr_10 8 11 (by decide +kernel)) e_18 ?_⟩
    intro hbr_16
    dsimp only at h
    simp only [gt_nil, true_and, eq_self, gt_if, gt_bipush, gt_iret, gt_retz, Option.toList, List.cons_append, List.nil_append, Nat.add_zero, ka0_0, ra0_0_0, ka0_1, ra0_1_0, ka0_2, ra0_2_0, ka0_3, la0_3, kr_1_0, rr_1_0_1, kr_1_7, rr_1_7_0, kr_1_8, lr_1_8, kr_10_0, rr_10_0_2, kr_10_11, rr_10_11_0, kr_10_12, lr_10_12]
    refine ⟨fun c_20 => ?_, fun c_20 => ?_⟩
    · replace h := gw_ifp h c_20
      refine hK _ _ _ _ _ _ _ ?_
      rw [fdX3_walkTables_51]
      simp only [gt_nil, true_and, eq_self, gt_aload, gt_rfk, gw_nth, gt_get_r, gt_get_i, gt_get_z, gt_iload, gt_ink, gt_iaload, gt_istore, gw_set, gt_aload_n, gt_v0, gt_v1, gt_v2, gt_v3, gt_v4, gt_v5, gt_iload_n, gt_s1_0, gt_s2_0, gt_s3_0, gt_s4_0, gt_s1_1, gt_s2_1, gt_s3_1, gt_s4_1, gt_acpy, gt_if, gt_goto, bkX3_walkTables_51, ka0_0, ra0_0_0, ka0_1, ra0_1_0, ka0_2, ra0_2_0, ka0_3, la0_3, kr_1_0, rr_1_0_1, kr_1_7, rr_1_7_0, kr_1_8, lr_1_8, kr_10_0, rr_10_0_2, kr_10_11, rr_10_11_0, kr_10_12, lr_10_12]
      obtain ⟨c_21, h⟩ := gw_ife h
      refine ⟨c_21, ?_⟩
      obtain ⟨w_22, hw_22, h⟩ := gw_lt h
      try rw [← hw_22]
      obtain ⟨⟨r_23, μ_24⟩, e_25, h⟩ := gw_bnd h
      refine ⟨rfl, 0, 0, Nat.le_refl _, Nat.le_refl _, ok_X4_rightsGiven (gw_sub hS0 4 1 (by decide +kernel)) e_25 ?_⟩
      dsimp only at h
      simp only [gt_nil, true_and, eq_self, gt_iload_n, gt_ink, gw_nth, gt_s1_0, gt_s2_0, gt_s3_0, gt_s4_0, gt_s1_1, gt_s2_1, gt_s3_1, gt_s4_1, gt_acpy, gt_if, gt_aload_n, gt_rfk, gt_get_r, gt_get_i, gt_get_z, gt_iload, gt_iaload, gt_goto, Option.toList, List.cons_append, List.nil_append, Nat.add_zero, ka0_0, ra0_0_0, ka0_1, ra0_1_0, ka0_2, ra0_2_0, ka0_3, la0_3, kr_1_0, rr_1_0_1, kr_1_7, rr_1_7_0, kr_1_8, lr_1_8, kr_10_0, rr_10_0_2, kr_10_11, rr_10_11_0, kr_10_12, lr_10_12]
      obtain ⟨⟨r_27, μ_28⟩, e_29, h⟩ := gw_bnd h
      refine ⟨rfl, 0, 0, Nat.le_refl _, Nat.le_refl _, ok_X10_hasBit e_29 ?_⟩
      intro hbr_27
      dsimp only at h
      simp only [gt_nil, true_and, eq_self, gt_if, gt_aload_n, gt_rfk, gw_nth, gt_get_r, gt_get_i, gt_get_z, gt_iload, gt_ink, gt_iaload, gt_goto, Option.toList, List.cons_append, List.nil_append, Nat.add_zero, ka0_0, ra0_0_0, ka0_1, ra0_1_0, ka0_2, ra0_2_0, ka0_3, la0_3, kr_1_0, rr_1_0_1, kr_1_7, rr_1_7_0, kr_1_8, lr_1_8, kr_10_0, rr_10_0_2, kr_10_11, rr_10_11_0, kr_10_12, lr_10_12]
      refine ⟨fun c_31 => ?_, fun c_31 => ?_⟩
      · replace h := gw_ifp h c_31
        refine hK _ _ _ _ _ _ _ ?_
        rw [fdX3_walkTables_93]
        simp only [gt_nil, true_and, eq_self, gt_bipush, bkX3_walkTables_93, ka0_0, ra0_0_0, ka0_1, ra0_1_0, ka0_2, ra0_2_0, ka0_3, la0_3, kr_1_0, rr_1_0_1, kr_1_7, rr_1_7_0, kr_1_8, lr_1_8, kr_10_0, rr_10_0_2, kr_10_11, rr_10_11_0, kr_10_12, lr_10_12]
        refine hK _ _ _ _ _ _ _ ?_
        rw [fdX3_walkTables_95]
        simp only [gt_nil, true_and, eq_self, gt_iret, gt_retz, bkX3_walkTables_95, ka0_0, ra0_0_0, ka0_1, ra0_1_0, ka0_2, ra0_2_0, ka0_3, la0_3, kr_1_0, rr_1_0_1, kr_1_7, rr_1_7_0, kr_1_8, lr_1_8, kr_10_0, rr_10_0_2, kr_10_11, rr_10_11_0, kr_10_12, lr_10_12]
        cases h
        exact ⟨Nat.le_refl _, Nat.le_refl _, hq⟩
      · replace h := gw_ifn h c_31
        obtain ⟨c_32, h⟩ := gw_ife h
        refine ⟨c_32, ?_⟩
        refine hK _ _ _ _ _ _ _ ?_
        rw [fdX3_walkTables_95]
        simp only [gt_nil, true_and, eq_self, gt_iret, gt_retz, bkX3_walkTables_95, ka0_0, ra0_0_0, ka0_1, ra0_1_0, ka0_2, ra0_2_0, ka0_3, la0_3, kr_1_0, rr_1_0_1, kr_1_7, rr_1_7_0, kr_1_8, lr_1_8, kr_10_0, rr_10_0_2, kr_10_11, rr_10_11_0, kr_10_12, lr_10_12]
        cases h
        exact ⟨Nat.le_refl _, Nat.le_refl _, hq⟩
    · replace h := gw_ifn h c_20
      cases h
      exact ⟨Nat.le_refl _, Nat.le_refl _, hq⟩
  · replace h := gw_ifn h c_9
    cases h
    exact ⟨Nat.le_refl _, Nat.le_refl _, hq⟩
def F_X3_rightsOfVirtual (n0 : Nat) (a0 : Nat) (v1 : Int32) (μ : gw_M) : Option (Int32 × gw_M) := (F_X3_inHand n0 a0 μ).bind (fun (z_4 : Nat × gw_M) => (F_X8_has n0 (z_4.1 + 7) v1 z_4.2).bind (fun (z_8 : Int32 × gw_M) => (if z_8.1 = 0 then some (0, z_8.2) else (if 0 ≤ v1 ∧ v1.toNatClampNeg < 16 then (if 0 ≤ v1 ∧ v1.toNatClampNeg < 16 then (F_X3_rightsOfBoth n0 a0 (z_8.2 (z_4.1 + 8) v1.toNatClampNeg) z_8.2).bind (fun (z_15 : Int32 × gw_M) => some (((z_8.2 (z_4.1 + 9) v1.toNatClampNeg) &&& z_15.1), z_15.2)) else none) else none))))
theorem ok_X3_rightsOfVirtual {l : Launch} {x : gw_C} {d : Nat} {S : gw_S} {Q : Option Value → gw_S → gw_M → Prop} {v1 : Int32} {a0 : Nat} {n0 : Nat} {μ : gw_M} {r μ'} (hS0 : gw_sh S 3 a0) (h : F_X3_rightsOfVirtual n0 a0 v1 μ = some (r, μ')) (hq : Q (some (.int r)) S μ') : gw_ok l x (d + 3) sgX3_rightsOfVirtual 0 0 [.ref a0, .int v1] S μ Q := by
  refine gw_ok_of stX3_rightsOfVirtual (lv0 := [.ref a0, .int v1, .retAddr 0]) (Nat.le_of_ble_eq_true rfl) rfl rfl ?_
  intro K hK
  have ka0_0 : gw_kd S a0 = 3 := (hS0 0 _ rfl).1
  unfold F_X3_rightsOfVirtual at h
  refine hK _ _ _ _ _ _ _ ?_
  rw [fdX3_rightsOfVirtual_0]
  simp only [gt_nil, true_and, eq_self, gt_aload_n, gt_rfk, gw_nth, gt_v0, gt_v1, gt_v2, gt_v3, gt_v4, gt_v5, gt_get_r, gt_get_i, gt_get_z, gt_astore_n, gw_set, gt_iload_n, gt_ink, gt_if, gt_iaload, gt_iand, gt_goto, bkX3_rightsOfVirtual_0, ka0_0]
  obtain ⟨⟨r_1, μ_2⟩, e_3, h⟩ := gw_bnd h
  refine ⟨rfl, 0, 0, Nat.le_refl _, Nat.le_refl _, ok_X3_inHand hS0 e_3 ?_⟩
  intro hsr_1
  have kr_1_0 : gw_kd S r_1 = 1 := (hsr_1 0 _ rfl).1
  have rr_1_0_1 : gw_rf S r_1 1 = r_1 + 7 := (hsr_1 0 _ rfl).2.2 (1, 7) (by decide)
  have kr_1_7 : gw_kd S (r_1 + 7) = 8 := (hsr_1 7 _ rfl).1
  have rr_1_7_0 : gw_rf S (r_1 + 7) 0 = r_1 + 8 := (hsr_1 7 _ rfl).2.2 (0, 8) (by decide)
  have rr_1_7_1 : gw_rf S (r_1 + 7) 1 = r_1 + 9 := (hsr_1 7 _ rfl).2.2 (1, 9) (by decide)
  have kr_1_8 : gw_kd S (r_1 + 8) = 12 := (hsr_1 8 _ rfl).1
  have lr_1_8 : gw_ln S (r_1 + 8) = 16 := (hsr_1 8 _ rfl).2.1
  have kr_1_9 : gw_kd S (r_1 + 9) = 12 := (hsr_1 9 _ rfl).1
  have lr_1_9 : gw_ln S (r_1 + 9) = 16 := (hsr_1 9 _ rfl).2.1
  dsimp only at h
  simp only [gt_nil, true_and, eq_self, gt_get_r, gt_get_i, gt_get_z, gt_astore_n, gw_set, gt_aload_n, gt_rfk, gw_nth, gt_iload_n, gt_ink, gt_v0, gt_v1, gt_v2, gt_v3, gt_v4, gt_v5, gt_if, gt_iaload, gt_iand, gt_goto, Option.toList, List.cons_append, List.nil_append, Nat.add_zero, ka0_0, kr_1_0, rr_1_0_1, kr_1_7, rr_1_7_0, rr_1_7_1, kr_1_8, lr_1_8, kr_1_9, lr_1_9]
  obtain ⟨⟨r_5, μ_6⟩, e_7, h⟩ := gw_bnd h
  refine ⟨rfl, 0, 0, Nat.le_refl _, Nat.le_refl _, ok_X8_has (gw_sub hsr_1 8 7 (by decide +kernel)) e_7 ?_⟩
  intro hbr_5
  dsimp only at h
  simp only [gt_nil, true_and, eq_self, gt_if, gt_aload_n, gt_rfk, gw_nth, gt_get_r, gt_get_i, gt_get_z, gt_iload_n, gt_ink, gt_iaload, gt_v0, gt_v1, gt_v2, gt_v3, gt_v4, gt_v5, gt_iand, gt_goto, Option.toList, List.cons_append, List.nil_append, Nat.add_zero, ka0_0, kr_1_0, rr_1_0_1, kr_1_7, rr_1_7_0, rr_1_7_1, kr_1_8, lr_1_8, kr_1_9, lr_1_9]
  refine ⟨fun c_9 => ?_, fun c_9 => ?_⟩
  · replace h := gw_ifp h c_9
    refine hK _ _ _ _ _ _ _ ?_
    rw [fdX3_rightsOfVirtual_36]
    simp only [gt_nil, true_and, eq_self, gt_iconst, bkX3_rightsOfVirtual_36, ka0_0, kr_1_0, rr_1_0_1, kr_1_7, rr_1_7_0, rr_1_7_1, kr_1_8, lr_1_8, kr_1_9, lr_1_9]
    refine hK _ _ _ _ _ _ _ ?_
    rw [fdX3_rightsOfVirtual_37]
    simp only [gt_nil, true_and, eq_self, gt_iret, gt_retz, bkX3_rightsOfVirtual_37, ka0_0, kr_1_0, rr_1_0_1, kr_1_7, rr_1_7_0, rr_1_7_1, kr_1_8, lr_1_8, kr_1_9, lr_1_9]
    cases h
    exact ⟨Nat.le_refl _, Nat.le_refl _, hq⟩
  · replace h := gw_ifn h c_9
    obtain ⟨c_10, h⟩ := gw_ife h
    refine ⟨c_10, ?_⟩
    obtain ⟨c_11, h⟩ := gw_ife h
    refine ⟨c_11, ?_⟩
    obtain ⟨⟨r_12, μ_13⟩, e_14, h⟩ := gw_bnd h
    refine ⟨rfl, 0, 0, Nat.le_refl _, Nat.le_refl _, ok_X3_rightsOfBoth hS0 e_14 ?_⟩
    dsimp only at h
    simp only [gt_nil, true_and, eq_self, gt_iand, gt_goto, Option.toList, List.cons_append, List.nil_append, Nat.add_zero, ka0_0, kr_1_0, rr_1_0_1, kr_1_7, rr_1_7_0, rr_1_7_1, kr_1_8, lr_1_8, kr_1_9, lr_1_9]
    refine hK _ _ _ _ _ _ _ ?_
    rw [fdX3_rightsOfVirtual_37]
    simp only [gt_nil, true_and, eq_self, gt_iret, gt_retz, bkX3_rightsOfVirtual_37, ka0_0, kr_1_0, rr_1_0_1, kr_1_7, rr_1_7_0, rr_1_7_1, kr_1_8, lr_1_8, kr_1_9, lr_1_9]
    cases h
    exact ⟨Nat.le_refl _, Nat.le_refl _, hq⟩
def F_X3_frameOfInner (n0 : Nat) (a0 : Nat) (v1 : Int32) (μ : gw_M) : Option (Int32 × gw_M) := (F_X3_inHand n0 a0 μ).bind (fun (z_4 : Nat × gw_M) => (F_X8_has n0 (z_4.1 + 11) v1 z_4.2).bind (fun (z_8 : Int32 × gw_M) => (if z_8.1 = 0 then some ((-1), z_8.2) else (if 0 ≤ v1 ∧ v1.toNatClampNeg < 16 then (if 0 ≤ (z_8.2 (z_4.1 + 12) v1.toNatClampNeg) ∧ (z_8.2 (z_4.1 + 12) v1.toNatClampNeg).toNatClampNeg < 16 then some ((z_8.2 (a0 + 3) (z_8.2 (z_4.1 + 12) v1.toNatClampNeg).toNatClampNeg), z_8.2) else none) else none))))
theorem ok_X3_frameOfInner {l : Launch} {x : gw_C} {d : Nat} {S : gw_S} {Q : Option Value → gw_S → gw_M → Prop} {v1 : Int32} {a0 : Nat} {n0 : Nat} {μ : gw_M} {r μ'} (hS0 : gw_sh S 3 a0) (h : F_X3_frameOfInner n0 a0 v1 μ = some (r, μ')) (hq : Q (some (.int r)) S μ') : gw_ok l x (d + 2) sgX3_frameOfInner 0 0 [.ref a0, .int v1] S μ Q := by
  refine gw_ok_of stX3_frameOfInner (lv0 := [.ref a0, .int v1, .retAddr 0]) (Nat.le_of_ble_eq_true rfl) rfl rfl ?_
  intro K hK
  have ka0_0 : gw_kd S a0 = 3 := (hS0 0 _ rfl).1
  have ra0_0_0 : gw_rf S a0 0 = a0 + 1 := (hS0 0 _ rfl).2.2 (0, 1) (by decide)
  have ka0_1 : gw_kd S (a0 + 1) = 4 := (hS0 1 _ rfl).1
  have ra0_1_0 : gw_rf S (a0 + 1) 0 = a0 + 2 := (hS0 1 _ rfl).2.2 (0, 2) (by decide)
  have ka0_2 : gw_kd S (a0 + 2) = 8 := (hS0 2 _ rfl).1
  have ra0_2_0 : gw_rf S (a0 + 2) 0 = a0 + 3 := (hS0 2 _ rfl).2.2 (0, 3) (by decide)
  have ka0_3 : gw_kd S (a0 + 3) = 12 := (hS0 3 _ rfl).1
  have la0_3 : gw_ln S (a0 + 3) = 16 := (hS0 3 _ rfl).2.1
  unfold F_X3_frameOfInner at h
  refine hK _ _ _ _ _ _ _ ?_
  rw [fdX3_frameOfInner_0]
  simp only [gt_nil, true_and, eq_self, gt_aload_n, gt_rfk, gw_nth, gt_v0, gt_v1, gt_v2, gt_v3, gt_v4, gt_v5, gt_get_r, gt_get_i, gt_get_z, gt_astore_n, gw_set, gt_iload_n, gt_ink, gt_if, gt_iaload, gt_goto, bkX3_frameOfInner_0, ka0_0, ra0_0_0, ka0_1, ra0_1_0, ka0_2, ra0_2_0, ka0_3, la0_3]
  obtain ⟨⟨r_1, μ_2⟩, e_3, h⟩ := gw_bnd h
  refine ⟨rfl, 0, 0, Nat.le_refl _, Nat.le_refl _, ok_X3_inHand hS0 e_3 ?_⟩
  intro hsr_1
  have kr_1_0 : gw_kd S r_1 = 1 := (hsr_1 0 _ rfl).1
  have rr_1_0_2 : gw_rf S r_1 2 = r_1 + 11 := (hsr_1 0 _ rfl).2.2 (2, 11) (by decide)
  have kr_1_11 : gw_kd S (r_1 + 11) = 8 := (hsr_1 11 _ rfl).1
  have rr_1_11_0 : gw_rf S (r_1 + 11) 0 = r_1 + 12 := (hsr_1 11 _ rfl).2.2 (0, 12) (by decide)
  have kr_1_12 : gw_kd S (r_1 + 12) = 12 := (hsr_1 12 _ rfl).1
  have lr_1_12 : gw_ln S (r_1 + 12) = 16 := (hsr_1 12 _ rfl).2.1
  dsimp only at h
  simp only [gt_nil, true_and, eq_self, gt_get_r, gt_get_i, gt_get_z, gt_astore_n, gw_set, gt_aload_n, gt_rfk, gw_nth, gt_iload_n, gt_ink, gt_v0, gt_v1, gt_v2, gt_v3, gt_v4, gt_v5, gt_if, gt_iaload, gt_goto, Option.toList, List.cons_append, List.nil_append, Nat.add_zero, ka0_0, ra0_0_0, ka0_1, ra0_1_0, ka0_2, ra0_2_0, ka0_3, la0_3, kr_1_0, rr_1_0_2, kr_1_11, rr_1_11_0, kr_1_12, lr_1_12]
  obtain ⟨⟨r_5, μ_6⟩, e_7, h⟩ := gw_bnd h
  refine ⟨rfl, 0, 0, Nat.le_refl _, Nat.le_refl _, ok_X8_has (gw_sub hsr_1 8 11 (by decide +kernel)) e_7 ?_⟩
  intro hbr_5
  dsimp only at h
  simp only [gt_nil, true_and, eq_self, gt_if, gt_aload_n, gt_rfk, gw_nth, gt_get_r, gt_get_i, gt_get_z, gt_iload_n, gt_ink, gt_iaload, gt_goto, Option.toList, List.cons_append, List.nil_append, Nat.add_zero, ka0_0, ra0_0_0, ka0_1, ra0_1_0, ka0_2, ra0_2_0, ka0_3, la0_3, kr_1_0, rr_1_0_2, kr_1_11, rr_1_11_0, kr_1_12, lr_1_12]
  refine ⟨fun c_9 => ?_, fun c_9 => ?_⟩
  · replace h := gw_ifp h c_9
    refine hK _ _ _ _ _ _ _ ?_
    rw [fdX3_frameOfInner_36]
    simp only [gt_nil, true_and, eq_self, gt_iconst, bkX3_frameOfInner_36, ka0_0, ra0_0_0, ka0_1, ra0_1_0, ka0_2, ra0_2_0, ka0_3, la0_3, kr_1_0, rr_1_0_2, kr_1_11, rr_1_11_0, kr_1_12, lr_1_12]
    refine hK _ _ _ _ _ _ _ ?_
    rw [fdX3_frameOfInner_37]
    simp only [gt_nil, true_and, eq_self, gt_iret, gt_retz, bkX3_frameOfInner_37, ka0_0, ra0_0_0, ka0_1, ra0_1_0, ka0_2, ra0_2_0, ka0_3, la0_3, kr_1_0, rr_1_0_2, kr_1_11, rr_1_11_0, kr_1_12, lr_1_12]
    cases h
    exact ⟨Nat.le_refl _, Nat.le_refl _, hq⟩
  · replace h := gw_ifn h c_9
    obtain ⟨c_10, h⟩ := gw_ife h
    refine ⟨c_10, ?_⟩
    obtain ⟨c_11, h⟩ := gw_ife h
    refine ⟨c_11, ?_⟩
    refine hK _ _ _ _ _ _ _ ?_
    rw [fdX3_frameOfInner_37]
    simp only [gt_nil, true_and, eq_self, gt_iret, gt_retz, bkX3_frameOfInner_37, ka0_0, ra0_0_0, ka0_1, ra0_1_0, ka0_2, ra0_2_0, ka0_3, la0_3, kr_1_0, rr_1_0_2, kr_1_11, rr_1_11_0, kr_1_12, lr_1_12]
    cases h
    exact ⟨Nat.le_refl _, Nat.le_refl _, hq⟩
def F_X3_virtualPagesAt_51 (rec13 : Int32 → Nat → Int32 → Int32 → gw_M → Option (Int32 × gw_M)) (n0 : Nat) (a0 : Nat) (v1 : Int32) (p2 : Nat) (v3 : Int32) (v4 : Int32) (μ : gw_M) : Option (Int32 × gw_M) := gw_let (v4 + 1) (fun (w_1 : Int32) => rec13 v1 p2 v3 w_1 μ)
def F_X3_virtualPagesAt_13 (n0 : Nat) (a0 : Nat) : Nat → Int32 → Nat → Int32 → Int32 → gw_M → Option (Int32 × gw_M)
  | 0, _, _, _, _, _ => none
  | n + 1, v1, p2, v3, v4, μ => (if 16 ≤ v4 then some (v3, μ) else (F_X8_has n0 p2 v4 μ).bind (fun (z_5 : Int32 × gw_M) => (if z_5.1 = 0 then F_X3_virtualPagesAt_51 (F_X3_virtualPagesAt_13 n0 a0 n) n0 a0 v1 p2 v3 v4 z_5.2 else (if 0 ≤ v4 ∧ v4.toNatClampNeg < 16 then (F_X3_frameOfInner n0 a0 (z_5.2 (p2 + 1) v4.toNatClampNeg) z_5.2).bind (fun (z_11 : Int32 × gw_M) => (if ¬ z_11.1 = v1 then F_X3_virtualPagesAt_51 (F_X3_virtualPagesAt_13 n0 a0 n) n0 a0 v1 p2 v3 v4 z_11.2 else gw_let ((v3 ||| ((1 : Int32) <<< (v4 &&& 31)))) (fun (w_13 : Int32) => F_X3_virtualPagesAt_51 (F_X3_virtualPagesAt_13 n0 a0 n) n0 a0 v1 p2 w_13 v4 z_11.2))) else none))))
def F_X3_virtualPagesAt (n0 : Nat) (a0 : Nat) (v1 : Int32) (μ : gw_M) : Option (Int32 × gw_M) := (F_X3_inHand n0 a0 μ).bind (fun (z_4 : Nat × gw_M) => F_X3_virtualPagesAt_13 n0 a0 n0 v1 (z_4.1 + 7) 0 0 z_4.2)
theorem B_X3_virtualPagesAt_51 {l : Launch} {x : gw_C} {d : Nat} {S : gw_S} {Q : Option Value → gw_S → gw_M → Prop} {K : Nat → gw_Kt} (hK : gw_cl l x (d + 2) bsX3_virtualPagesAt Q K) {a0 : Nat} (hS0 : gw_sh S 3 a0) {rec13 : Int32 → Nat → Int32 → Int32 → gw_M → Option (Int32 × gw_M)} (hrec13 : ∀ {v1 p2 v3 v4} {μ : gw_M} {r μ'}, gw_sh S 8 p2 → rec13 v1 p2 v3 v4 μ = some (r, μ') → Q (some (.int r)) S μ' → K 13 [.ref a0, .int v1, .ref p2, .int v3, .int v4] [] S μ 0 0) {p2 : Nat} (hpp2 : gw_sh S 8 p2) {n0 : Nat} {v1 v3 v4} {μ : gw_M} {r μ'} (h : F_X3_virtualPagesAt_51 rec13 n0 a0 v1 p2 v3 v4 μ = some (r, μ')) (hq : Q (some (.int r)) S μ') : K 51 [.ref a0, .int v1, .ref p2, .int v3, .int v4] [] S μ 0 0 := by
  unfold F_X3_virtualPagesAt_51 at h
  refine hK _ _ _ _ _ _ _ ?_
  rw [fdX3_virtualPagesAt_51]
  simp only [gt_nil, true_and, eq_self, gt_iinc, gt_ink, gw_nth, gw_set, gt_goto, bkX3_virtualPagesAt_51]
  obtain ⟨w_1, hw_1, h⟩ := gw_lt h
  try rw [← hw_1]
  exact hrec13 hpp2 h hq
theorem B_X3_virtualPagesAt_13 {l : Launch} {x : gw_C} {d : Nat} {S : gw_S} {Q : Option Value → gw_S → gw_M → Prop} {K : Nat → gw_Kt} (hK : gw_cl l x (d + 2) bsX3_virtualPagesAt Q K) {a0 : Nat} (hS0 : gw_sh S 3 a0) {n0 : Nat} : ∀ {n : Nat} {v1 p2 v3 v4} {μ : gw_M} {r μ'}, gw_sh S 8 p2 → F_X3_virtualPagesAt_13 n0 a0 n v1 p2 v3 v4 μ = some (r, μ') → Q (some (.int r)) S μ' → K 13 [.ref a0, .int v1, .ref p2, .int v3, .int v4] [] S μ 0 0 := by
  have ka0_0 : gw_kd S a0 = 3 := (hS0 0 _ rfl).1
  intro n
  induction n with
  | zero => intro v1 p2 v3 v4 μ r μ' hpp2 h hq; simp [F_X3_virtualPagesAt_13] at h
  | succ n ih =>
    intro v1 p2 v3 v4 μ r μ' hpp2 h hq
    have kp2_0 : gw_kd S p2 = 8 := (hpp2 0 _ rfl).1
    have rp2_0_0 : gw_rf S p2 0 = p2 + 1 := (hpp2 0 _ rfl).2.2 (0, 1) (by decide)
    have kp2_1 : gw_kd S (p2 + 1) = 12 := (hpp2 1 _ rfl).1
    have lp2_1 : gw_ln S (p2 + 1) = 16 := (hpp2 1 _ rfl).2.1
    simp only [F_X3_virtualPagesAt_13] at h
    refine hK _ _ _ _ _ _ _ ?_
    rw [fdX3_virtualPagesAt_13]
    simp only [gt_nil, true_and, eq_self, gt_iload, gt_ink, gw_nth, gt_bipush, gt_icmp, gt_aload_n, gt_rfk, gt_v0, gt_v1, gt_v2, gt_v3, gt_v4, gt_v5, gt_if, gt_get_r, gt_get_i, gt_get_z, gt_iaload, gt_iload_n, gt_iconst, gt_ishl, gt_ior, gt_istore_n, gw_set, bkX3_virtualPagesAt_13, ka0_0, kp2_0, rp2_0_0, kp2_1, lp2_1]
    refine ⟨fun c_1 => ?_, fun c_1 => ?_⟩
    · replace h := gw_ifp h c_1
      refine hK _ _ _ _ _ _ _ ?_
      rw [fdX3_virtualPagesAt_57]
      simp only [gt_nil, true_and, eq_self, gt_iload_n, gt_ink, gw_nth, gt_iret, gt_retz, bkX3_virtualPagesAt_57, ka0_0, kp2_0, rp2_0_0, kp2_1, lp2_1]
      cases h
      exact ⟨Nat.le_refl _, Nat.le_refl _, hq⟩
    · replace h := gw_ifn h c_1
      obtain ⟨⟨r_2, μ_3⟩, e_4, h⟩ := gw_bnd h
      refine ⟨rfl, 0, 0, Nat.le_refl _, Nat.le_refl _, ok_X8_has hpp2 e_4 ?_⟩
      intro hbr_2
      dsimp only at h
      simp only [gt_nil, true_and, eq_self, gt_if, gt_aload_n, gt_rfk, gw_nth, gt_get_r, gt_get_i, gt_get_z, gt_iload, gt_ink, gt_iaload, gt_v0, gt_v1, gt_v2, gt_v3, gt_v4, gt_v5, gt_iload_n, gt_icmp, gt_iconst, gt_ishl, gt_ior, gt_istore_n, gw_set, Option.toList, List.cons_append, List.nil_append, Nat.add_zero, ka0_0, kp2_0, rp2_0_0, kp2_1, lp2_1]
      refine ⟨fun c_6 => ?_, fun c_6 => ?_⟩
      · replace h := gw_ifp h c_6
        exact B_X3_virtualPagesAt_51 hK hS0 ih hpp2 h hq
      · replace h := gw_ifn h c_6
        obtain ⟨c_7, h⟩ := gw_ife h
        refine ⟨c_7, ?_⟩
        obtain ⟨⟨r_8, μ_9⟩, e_10, h⟩ := gw_bnd h
        refine ⟨rfl, 0, 0, Nat.le_refl _, Nat.le_refl _, ok_X3_frameOfInner hS0 e_10 ?_⟩
        dsimp only at h
        simp only [gt_nil, true_and, eq_self, gt_iload_n, gt_ink, gw_nth, gt_icmp, gt_iconst, gt_iload, gt_ishl, gt_ior, gt_istore_n, gw_set, Option.toList, List.cons_append, List.nil_append, Nat.add_zero, ka0_0, kp2_0, rp2_0_0, kp2_1, lp2_1]
        refine ⟨fun c_12 => ?_, fun c_12 => ?_⟩
        · replace h := gw_ifp h c_12
          exact B_X3_virtualPagesAt_51 hK hS0 ih hpp2 h hq
        · replace h := gw_ifn h c_12
          obtain ⟨w_13, hw_13, h⟩ := gw_lt h
          try rw [← hw_13]
          exact B_X3_virtualPagesAt_51 hK hS0 ih hpp2 h hq
theorem ok_X3_virtualPagesAt {l : Launch} {x : gw_C} {d : Nat} {S : gw_S} {Q : Option Value → gw_S → gw_M → Prop} {v1 : Int32} {a0 : Nat} {n0 : Nat} {μ : gw_M} {r μ'} (hS0 : gw_sh S 3 a0) (h : F_X3_virtualPagesAt n0 a0 v1 μ = some (r, μ')) (hq : Q (some (.int r)) S μ') : gw_ok l x (d + 3) sgX3_virtualPagesAt 0 0 [.ref a0, .int v1] S μ Q := by
  refine gw_ok_of stX3_virtualPagesAt (lv0 := [.ref a0, .int v1, .retAddr 0, .retAddr 0, .retAddr 0]) (Nat.le_of_ble_eq_true rfl) rfl rfl ?_
  intro K hK
  have ka0_0 : gw_kd S a0 = 3 := (hS0 0 _ rfl).1
  unfold F_X3_virtualPagesAt at h
  refine hK _ _ _ _ _ _ _ ?_
  rw [fdX3_virtualPagesAt_0]
  simp only [gt_nil, true_and, eq_self, gt_aload_n, gt_rfk, gw_nth, gt_v0, gt_v1, gt_v2, gt_v3, gt_v4, gt_v5, gt_get_r, gt_get_i, gt_get_z, gt_astore_n, gw_set, gt_iconst, gt_istore_n, gt_istore, bkX3_virtualPagesAt_0, ka0_0]
  obtain ⟨⟨r_1, μ_2⟩, e_3, h⟩ := gw_bnd h
  refine ⟨rfl, 0, 0, Nat.le_refl _, Nat.le_refl _, ok_X3_inHand hS0 e_3 ?_⟩
  intro hsr_1
  have kr_1_0 : gw_kd S r_1 = 1 := (hsr_1 0 _ rfl).1
  have rr_1_0_1 : gw_rf S r_1 1 = r_1 + 7 := (hsr_1 0 _ rfl).2.2 (1, 7) (by decide)
  dsimp only at h
  simp only [gt_nil, true_and, eq_self, gt_get_r, gt_get_i, gt_get_z, gt_astore_n, gw_set, gt_iconst, gt_istore_n, gt_istore, Option.toList, List.cons_append, List.nil_append, Nat.add_zero, ka0_0, kr_1_0, rr_1_0_1]
  exact B_X3_virtualPagesAt_13 hK hS0 (gw_sub hsr_1 8 7 (by decide +kernel)) h hq
def F_X3_plainValue (n0 : Nat) (a0 : Nat) (v1 : Int32) (μ : gw_M) : Option (Int32 × gw_M) := (F_X3_frameOfInner n0 a0 v1 μ).bind (fun (z_4 : Int32 × gw_M) => (if z_4.1 = (-1) then (F_X3_inHand n0 a0 z_4.2).bind (fun (z_9 : Nat × gw_M) => (F_X8_has n0 (z_9.1 + 11) v1 z_9.2).bind (fun (z_13 : Int32 × gw_M) => (if z_13.1 = 0 then some (0, z_13.2) else (if 0 ≤ v1 ∧ v1.toNatClampNeg < 16 then (if 0 ≤ (z_13.2 (z_9.1 + 12) v1.toNatClampNeg) ∧ (z_13.2 (z_9.1 + 12) v1.toNatClampNeg).toNatClampNeg < 16 then (F_J9_max_7cf53 n0 (z_13.2 (a0 + 7) (z_13.2 (z_9.1 + 12) v1.toNatClampNeg).toNatClampNeg) 0 z_13.2).bind (fun (z_20 : Int32 × gw_M) => some (z_20.1, z_20.2)) else none) else none)))) else (if 0 ≤ z_4.1 ∧ z_4.1.toNatClampNeg < 10 then some ((z_4.2 (a0 + 6) z_4.1.toNatClampNeg), z_4.2) else none)))
theorem ok_X3_plainValue {l : Launch} {x : gw_C} {d : Nat} {S : gw_S} {Q : Option Value → gw_S → gw_M → Prop} {v1 : Int32} {a0 : Nat} {n0 : Nat} {μ : gw_M} {r μ'} (hS0 : gw_sh S 3 a0) (h : F_X3_plainValue n0 a0 v1 μ = some (r, μ')) (hq : Q (some (.int r)) S μ') : gw_ok l x (d + 3) sgX3_plainValue 0 0 [.ref a0, .int v1] S μ Q := by
  refine gw_ok_of stX3_plainValue (lv0 := [.ref a0, .int v1, .retAddr 0, .retAddr 0]) (Nat.le_of_ble_eq_true rfl) rfl rfl ?_
  intro K hK
  have ka0_0 : gw_kd S a0 = 3 := (hS0 0 _ rfl).1
  have ra0_0_0 : gw_rf S a0 0 = a0 + 1 := (hS0 0 _ rfl).2.2 (0, 1) (by decide)
  have ka0_1 : gw_kd S (a0 + 1) = 4 := (hS0 1 _ rfl).1
  have ra0_1_1 : gw_rf S (a0 + 1) 1 = a0 + 6 := (hS0 1 _ rfl).2.2 (1, 6) (by decide)
  have ra0_1_2 : gw_rf S (a0 + 1) 2 = a0 + 7 := (hS0 1 _ rfl).2.2 (2, 7) (by decide)
  have ka0_6 : gw_kd S (a0 + 6) = 12 := (hS0 6 _ rfl).1
  have la0_6 : gw_ln S (a0 + 6) = 10 := (hS0 6 _ rfl).2.1
  have ka0_7 : gw_kd S (a0 + 7) = 12 := (hS0 7 _ rfl).1
  have la0_7 : gw_ln S (a0 + 7) = 16 := (hS0 7 _ rfl).2.1
  unfold F_X3_plainValue at h
  refine hK _ _ _ _ _ _ _ ?_
  rw [fdX3_plainValue_0]
  simp only [gt_nil, true_and, eq_self, gt_aload_n, gt_rfk, gw_nth, gt_iload_n, gt_ink, gt_v0, gt_v1, gt_v2, gt_v3, gt_v4, gt_v5, gt_istore_n, gw_set, gt_iconst, gt_icmp, gt_get_r, gt_get_i, gt_get_z, gt_iaload, gt_iret, gt_retz, bkX3_plainValue_0, ka0_0, ra0_0_0, ka0_1, ra0_1_1, ra0_1_2, ka0_6, la0_6, ka0_7, la0_7]
  obtain ⟨⟨r_1, μ_2⟩, e_3, h⟩ := gw_bnd h
  refine ⟨rfl, 0, 0, Nat.le_refl _, Nat.le_refl _, ok_X3_frameOfInner hS0 e_3 ?_⟩
  dsimp only at h
  simp only [gt_nil, true_and, eq_self, gt_istore_n, gw_set, gt_iload_n, gt_ink, gw_nth, gt_iconst, gt_icmp, gt_aload_n, gt_rfk, gt_get_r, gt_get_i, gt_get_z, gt_iaload, gt_iret, gt_retz, Option.toList, List.cons_append, List.nil_append, Nat.add_zero, ka0_0, ra0_0_0, ka0_1, ra0_1_1, ra0_1_2, ka0_6, la0_6, ka0_7, la0_7]
  refine ⟨fun c_5 => ?_, fun c_5 => ?_⟩
  · replace h := gw_ifp h c_5
    refine hK _ _ _ _ _ _ _ ?_
    rw [fdX3_plainValue_21]
    simp only [gt_nil, true_and, eq_self, gt_aload_n, gt_rfk, gw_nth, gt_v0, gt_v1, gt_v2, gt_v3, gt_v4, gt_v5, gt_get_r, gt_get_i, gt_get_z, gt_astore_n, gw_set, gt_iload_n, gt_ink, gt_if, gt_iaload, gt_iconst, gt_s1_0, gt_s2_0, gt_s3_0, gt_s4_0, gt_s1_1, gt_s2_1, gt_s3_1, gt_s4_1, gt_acpy, gt_goto, bkX3_plainValue_21, ka0_0, ra0_0_0, ka0_1, ra0_1_1, ra0_1_2, ka0_6, la0_6, ka0_7, la0_7]
    obtain ⟨⟨r_6, μ_7⟩, e_8, h⟩ := gw_bnd h
    refine ⟨rfl, 0, 0, Nat.le_refl _, Nat.le_refl _, ok_X3_inHand hS0 e_8 ?_⟩
    intro hsr_6
    have kr_6_0 : gw_kd S r_6 = 1 := (hsr_6 0 _ rfl).1
    have rr_6_0_2 : gw_rf S r_6 2 = r_6 + 11 := (hsr_6 0 _ rfl).2.2 (2, 11) (by decide)
    have kr_6_11 : gw_kd S (r_6 + 11) = 8 := (hsr_6 11 _ rfl).1
    have rr_6_11_0 : gw_rf S (r_6 + 11) 0 = r_6 + 12 := (hsr_6 11 _ rfl).2.2 (0, 12) (by decide)
    have kr_6_12 : gw_kd S (r_6 + 12) = 12 := (hsr_6 12 _ rfl).1
    have lr_6_12 : gw_ln S (r_6 + 12) = 16 := (hsr_6 12 _ rfl).2.1
    dsimp only at h
    simp only [gt_nil, true_and, eq_self, gt_get_r, gt_get_i, gt_get_z, gt_astore_n, gw_set, gt_aload_n, gt_rfk, gw_nth, gt_iload_n, gt_ink, gt_v0, gt_v1, gt_v2, gt_v3, gt_v4, gt_v5, gt_if, gt_iaload, gt_iconst, gt_s1_0, gt_s2_0, gt_s3_0, gt_s4_0, gt_s1_1, gt_s2_1, gt_s3_1, gt_s4_1, gt_acpy, gt_goto, Option.toList, List.cons_append, List.nil_append, Nat.add_zero, ka0_0, ra0_0_0, ka0_1, ra0_1_1, ra0_1_2, ka0_6, la0_6, ka0_7, la0_7, kr_6_0, rr_6_0_2, kr_6_11, rr_6_11_0, kr_6_12, lr_6_12]
    obtain ⟨⟨r_10, μ_11⟩, e_12, h⟩ := gw_bnd h
    refine ⟨rfl, 0, 0, Nat.le_refl _, Nat.le_refl _, ok_X8_has (gw_sub hsr_6 8 11 (by decide +kernel)) e_12 ?_⟩
    intro hbr_10
    dsimp only at h
    simp only [gt_nil, true_and, eq_self, gt_if, gt_aload_n, gt_rfk, gw_nth, gt_get_r, gt_get_i, gt_get_z, gt_iload_n, gt_ink, gt_iaload, gt_iconst, gt_s1_0, gt_s2_0, gt_s3_0, gt_s4_0, gt_s1_1, gt_s2_1, gt_s3_1, gt_s4_1, gt_acpy, gt_goto, Option.toList, List.cons_append, List.nil_append, Nat.add_zero, ka0_0, ra0_0_0, ka0_1, ra0_1_1, ra0_1_2, ka0_6, la0_6, ka0_7, la0_7, kr_6_0, rr_6_0_2, kr_6_11, rr_6_11_0, kr_6_12, lr_6_12]
    refine ⟨fun c_14 => ?_, fun c_14 => ?_⟩
    · replace h := gw_ifp h c_14
      refine hK _ _ _ _ _ _ _ ?_
      rw [fdX3_plainValue_58]
      simp only [gt_nil, true_and, eq_self, gt_iconst, bkX3_plainValue_58, ka0_0, ra0_0_0, ka0_1, ra0_1_1, ra0_1_2, ka0_6, la0_6, ka0_7, la0_7, kr_6_0, rr_6_0_2, kr_6_11, rr_6_11_0, kr_6_12, lr_6_12]
      refine hK _ _ _ _ _ _ _ ?_
      rw [fdX3_plainValue_59]
      simp only [gt_nil, true_and, eq_self, gt_iret, gt_retz, bkX3_plainValue_59, ka0_0, ra0_0_0, ka0_1, ra0_1_1, ra0_1_2, ka0_6, la0_6, ka0_7, la0_7, kr_6_0, rr_6_0_2, kr_6_11, rr_6_11_0, kr_6_12, lr_6_12]
      cases h
      exact ⟨Nat.le_refl _, Nat.le_refl _, hq⟩
    · replace h := gw_ifn h c_14
      obtain ⟨c_15, h⟩ := gw_ife h
      refine ⟨c_15, ?_⟩
      obtain ⟨c_16, h⟩ := gw_ife h
      refine ⟨c_16, ?_⟩
      obtain ⟨⟨r_17, μ_18⟩, e_19, h⟩ := gw_bnd h
      refine ⟨rfl, 0, 0, Nat.le_refl _, Nat.le_refl _, ok_J9_max_7cf53 e_19 ?_⟩
      dsimp only at h
      simp only [gt_nil, true_and, eq_self, gt_goto, Option.toList, List.cons_append, List.nil_append, Nat.add_zero, ka0_0, ra0_0_0, ka0_1, ra0_1_1, ra0_1_2, ka0_6, la0_6, ka0_7, la0_7, kr_6_0, rr_6_0_2, kr_6_11, rr_6_11_0, kr_6_12, lr_6_12]
      refine hK _ _ _ _ _ _ _ ?_
      rw [fdX3_plainValue_59]
      simp only [gt_nil, true_and, eq_self, gt_iret, gt_retz, bkX3_plainValue_59, ka0_0, ra0_0_0, ka0_1, ra0_1_1, ra0_1_2, ka0_6, la0_6, ka0_7, la0_7, kr_6_0, rr_6_0_2, kr_6_11, rr_6_11_0, kr_6_12, lr_6_12]
      cases h
      exact ⟨Nat.le_refl _, Nat.le_refl _, hq⟩
  · replace h := gw_ifn h c_5
    obtain ⟨c_21, h⟩ := gw_ife h
    refine ⟨c_21, ?_⟩
    cases h
    exact ⟨Nat.le_refl _, Nat.le_refl _, hq⟩
def F_X6_startFrom_13 (n0 : Nat) (a0 : Nat) : Nat → Nat → Int32 → gw_M → Option (gw_M)
  | 0, _, _, _ => none
  | n + 1, p1, v2, μ => (if 16 ≤ v2 then gw_let (gw_up μ a0 2 0) (fun (μ_2 : gw_M) => gw_let (gw_up μ_2 a0 3 (-1)) (fun (μ_3 : gw_M) => some μ_3)) else (F_X3_plainValue n0 p1 v2 μ).bind (fun (z_7 : Int32 × gw_M) => (if 0 ≤ v2 ∧ v2.toNatClampNeg < 16 then gw_let (gw_up z_7.2 (a0 + 16) v2.toNatClampNeg z_7.1) (fun (μ_9 : gw_M) => gw_let (v2 + 1) (fun (w_10 : Int32) => F_X6_startFrom_13 n0 a0 n p1 w_10 μ_9)) else none)))
def F_X6_startFrom (n0 : Nat) (a0 : Nat) (p1 : Nat) (μ : gw_M) : Option (gw_M) := (F_X3_inHand n0 p1 μ).bind (fun (z_4 : Nat × gw_M) => (F_X1_copyFrom n0 (a0 + 1) z_4.1 z_4.2).bind (fun (μ_6 : gw_M) => F_X6_startFrom_13 n0 a0 n0 p1 0 μ_6))
theorem B_X6_startFrom_13 {l : Launch} {x : gw_C} {d : Nat} {S : gw_S} {Q : Option Value → gw_S → gw_M → Prop} {K : Nat → gw_Kt} (hK : gw_cl l x (d + 3) bsX6_startFrom Q K) {a0 : Nat} (hS0 : gw_sh S 6 a0) {n0 : Nat} : ∀ {n : Nat} {p1 v2} {μ : gw_M} {μ'}, gw_sh S 3 p1 → F_X6_startFrom_13 n0 a0 n p1 v2 μ = some μ' → Q none S μ' → K 13 [.ref a0, .ref p1, .int v2] [] S μ 0 0 := by
  have ka0_0 : gw_kd S a0 = 6 := (hS0 0 _ rfl).1
  have ra0_0_1 : gw_rf S a0 1 = a0 + 16 := (hS0 0 _ rfl).2.2 (1, 16) (by decide)
  have ka0_16 : gw_kd S (a0 + 16) = 12 := (hS0 16 _ rfl).1
  have la0_16 : gw_ln S (a0 + 16) = 16 := (hS0 16 _ rfl).2.1
  intro n
  induction n with
  | zero => intro p1 v2 μ μ' hpp1 h hq; simp [F_X6_startFrom_13] at h
  | succ n ih =>
    intro p1 v2 μ μ' hpp1 h hq
    have kp1_0 : gw_kd S p1 = 3 := (hpp1 0 _ rfl).1
    simp only [F_X6_startFrom_13] at h
    refine hK _ _ _ _ _ _ _ ?_
    rw [fdX6_startFrom_13]
    simp only [gt_nil, true_and, eq_self, gt_iload_n, gt_ink, gw_nth, gt_bipush, gt_icmp, gt_aload_n, gt_rfk, gt_get_r, gt_get_i, gt_get_z, gt_v0, gt_v1, gt_v2, gt_v3, gt_v4, gt_v5, gt_iastore, gt_iinc, gw_set, gt_goto, bkX6_startFrom_13, ka0_0, ra0_0_1, ka0_16, la0_16, kp1_0]
    refine ⟨fun c_1 => ?_, fun c_1 => ?_⟩
    · replace h := gw_ifp h c_1
      refine hK _ _ _ _ _ _ _ ?_
      rw [fdX6_startFrom_36]
      simp only [gt_nil, true_and, eq_self, gt_aload_n, gt_rfk, gw_nth, gt_iconst, gt_put_i, gt_putz, gt_vret, bkX6_startFrom_36, ka0_0, ra0_0_1, ka0_16, la0_16, kp1_0]
      obtain ⟨μ_2, hμ_2, h⟩ := gw_lt h
      try rw [← hμ_2]
      obtain ⟨μ_3, hμ_3, h⟩ := gw_lt h
      try rw [← hμ_3]
      cases h
      exact ⟨Nat.le_refl _, Nat.le_refl _, hq⟩
    · replace h := gw_ifn h c_1
      obtain ⟨⟨r_4, μ_5⟩, e_6, h⟩ := gw_bnd h
      refine ⟨rfl, 0, 0, Nat.le_refl _, Nat.le_refl _, ok_X3_plainValue hpp1 e_6 ?_⟩
      dsimp only at h
      simp only [gt_nil, true_and, eq_self, gt_iastore, gt_iinc, gt_ink, gw_nth, gw_set, gt_goto, Option.toList, List.cons_append, List.nil_append, Nat.add_zero, ka0_0, ra0_0_1, ka0_16, la0_16, kp1_0]
      obtain ⟨c_8, h⟩ := gw_ife h
      refine ⟨c_8, ?_⟩
      obtain ⟨μ_9, hμ_9, h⟩ := gw_lt h
      try rw [← hμ_9]
      obtain ⟨w_10, hw_10, h⟩ := gw_lt h
      try rw [← hw_10]
      exact ih hpp1 h hq
theorem ok_X6_startFrom {l : Launch} {x : gw_C} {d : Nat} {S : gw_S} {Q : Option Value → gw_S → gw_M → Prop} {a0 p1 : Nat} {n0 : Nat} {μ : gw_M} {μ'} (hS0 : gw_sh S 6 a0) (hpp1 : gw_sh S 3 p1) (h : F_X6_startFrom n0 a0 p1 μ = some μ') (hq : Q none S μ') : gw_ok l x (d + 4) sgX6_startFrom 0 0 [.ref a0, .ref p1] S μ Q := by
  refine gw_ok_of stX6_startFrom (lv0 := [.ref a0, .ref p1, .retAddr 0]) (Nat.le_of_ble_eq_true rfl) rfl rfl ?_
  intro K hK
  have ka0_0 : gw_kd S a0 = 6 := (hS0 0 _ rfl).1
  have ra0_0_0 : gw_rf S a0 0 = a0 + 1 := (hS0 0 _ rfl).2.2 (0, 1) (by decide)
  have ka0_1 : gw_kd S (a0 + 1) = 1 := (hS0 1 _ rfl).1
  have kp1_0 : gw_kd S p1 = 3 := (hpp1 0 _ rfl).1
  unfold F_X6_startFrom at h
  refine hK _ _ _ _ _ _ _ ?_
  rw [fdX6_startFrom_0]
  simp only [gt_nil, true_and, eq_self, gt_aload_n, gt_rfk, gw_nth, gt_get_r, gt_get_i, gt_get_z, gt_v0, gt_v1, gt_v2, gt_v3, gt_v4, gt_v5, gt_iconst, gt_istore_n, gw_set, bkX6_startFrom_0, ka0_0, ra0_0_0, ka0_1, kp1_0]
  obtain ⟨⟨r_1, μ_2⟩, e_3, h⟩ := gw_bnd h
  refine ⟨rfl, 0, 0, Nat.le_refl _, Nat.le_refl _, ok_X3_inHand hpp1 e_3 ?_⟩
  intro hsr_1
  have kr_1_0 : gw_kd S r_1 = 1 := (hsr_1 0 _ rfl).1
  dsimp only at h
  simp only [gt_nil, true_and, eq_self, gt_v0, gt_v1, gt_v2, gt_v3, gt_v4, gt_v5, gt_iconst, gt_istore_n, gw_set, Option.toList, List.cons_append, List.nil_append, Nat.add_zero, ka0_0, ra0_0_0, ka0_1, kp1_0, kr_1_0]
  obtain ⟨μ_6, e_7, h⟩ := gw_bnd h
  refine ⟨rfl, 0, 0, Nat.le_refl _, Nat.le_refl _, ok_X1_copyFrom (gw_sub hS0 1 1 (by decide +kernel)) hsr_1 e_7 ?_⟩
  simp only [gt_nil, true_and, eq_self, gt_iconst, gt_istore_n, gw_set, Option.toList, List.cons_append, List.nil_append, Nat.add_zero, ka0_0, ra0_0_0, ka0_1, kp1_0, kr_1_0]
  exact B_X6_startFrom_13 hK hS0 hpp1 h hq
def F_X10_isWay (n0 : Nat) (v0 : Int32) (μ : gw_M) : Option (Int32 × gw_M) := (F_X10_within n0 v0 0 2 μ).bind (fun (z_4 : Int32 × gw_M) => some (z_4.1, z_4.2))
theorem ok_X10_isWay {l : Launch} {x : gw_C} {d : Nat} {S : gw_S} {Q : Option Value → gw_S → gw_M → Prop} {v0 : Int32} {n0 : Nat} {μ : gw_M} {r μ'} (h : F_X10_isWay n0 v0 μ = some (r, μ')) (hq : ((r = 0 ∨ r = 1) → Q (some (.int r)) S μ')) : gw_ok l x (d + 2) sgX10_isWay 0 0 [.int v0] S μ Q := by
  refine gw_ok_of stX10_isWay (lv0 := [.int v0]) (Nat.le_of_ble_eq_true rfl) rfl rfl ?_
  intro K hK
  unfold F_X10_isWay at h
  refine hK _ _ _ _ _ _ _ ?_
  rw [fdX10_isWay_0]
  simp only [gt_nil, true_and, eq_self, gt_iload_n, gt_ink, gw_nth, gt_iconst, gt_s1_0, gt_s2_0, gt_s3_0, gt_s4_0, gt_s1_1, gt_s2_1, gt_s3_1, gt_s4_1, gt_acpy, gt_iret, gt_retz, bkX10_isWay_0]
  obtain ⟨⟨r_1, μ_2⟩, e_3, h⟩ := gw_bnd h
  refine ⟨rfl, 0, 0, Nat.le_refl _, Nat.le_refl _, ok_X10_within e_3 ?_⟩
  intro hbr_1
  dsimp only at h
  simp only [gt_nil, true_and, eq_self, gt_iret, gt_retz, Option.toList, List.cons_append, List.nil_append, Nat.add_zero]
  cases h
  exact ⟨hbr_1, Nat.le_refl _, Nat.le_refl _, hq hbr_1⟩
def F_X6_touchFrom (n0 : Nat) (a0 : Nat) (v1 : Int32) (v2 : Int32) (v3 : Int32) (v4 : Int32) (μ : gw_M) : Option (gw_M) := (F_X8_gives n0 (a0 + 8) v2 v3 μ).bind (fun (z_4 : Int32 × gw_M) => (if ¬ z_4.1 = 0 then (if 0 ≤ v2 ∧ v2.toNatClampNeg < 16 then gw_let ((z_4.2 (a0 + 9) v2.toNatClampNeg)) (fun (w_7 : Int32) => (if ¬ v3 = 1 then (if 0 ≤ w_7 ∧ w_7.toNatClampNeg < 16 then gw_let (gw_up z_4.2 a0 3 (z_4.2 (a0 + 16) w_7.toNatClampNeg)) (fun (μ_10 : gw_M) => some μ_10) else none) else (if 0 ≤ w_7 ∧ w_7.toNatClampNeg < 16 then gw_let (gw_up z_4.2 (a0 + 16) w_7.toNatClampNeg v4) (fun (μ_12 : gw_M) => some μ_12) else none))) else none) else gw_let (gw_up z_4.2 a0 2 ((z_4.2 a0 2) + (1 : Int32))) (fun (μ_13 : gw_M) => gw_let (gw_up μ_13 (a0 + 1) 4 v2) (fun (μ_14 : gw_M) => (F_X1_trapAt n0 (a0 + 1) v1 μ_14).bind (fun (μ_16 : gw_M) => some μ_16)))))
theorem ok_X6_touchFrom {l : Launch} {x : gw_C} {d : Nat} {S : gw_S} {Q : Option Value → gw_S → gw_M → Prop} {v1 v2 v3 v4 : Int32} {a0 : Nat} {n0 : Nat} {μ : gw_M} {μ'} (hS0 : gw_sh S 6 a0) (h : F_X6_touchFrom n0 a0 v1 v2 v3 v4 μ = some μ') (hq : Q none S μ') : gw_ok l x (d + 3) sgX6_touchFrom 0 0 [.ref a0, .int v1, .int v2, .int v3, .int v4] S μ Q := by
  refine gw_ok_of stX6_touchFrom (lv0 := [.ref a0, .int v1, .int v2, .int v3, .int v4, .retAddr 0]) (Nat.le_of_ble_eq_true rfl) rfl rfl ?_
  intro K hK
  have ka0_0 : gw_kd S a0 = 6 := (hS0 0 _ rfl).1
  have ra0_0_0 : gw_rf S a0 0 = a0 + 1 := (hS0 0 _ rfl).2.2 (0, 1) (by decide)
  have ra0_0_1 : gw_rf S a0 1 = a0 + 16 := (hS0 0 _ rfl).2.2 (1, 16) (by decide)
  have ka0_1 : gw_kd S (a0 + 1) = 1 := (hS0 1 _ rfl).1
  have ra0_1_1 : gw_rf S (a0 + 1) 1 = a0 + 8 := (hS0 1 _ rfl).2.2 (1, 8) (by decide)
  have ka0_16 : gw_kd S (a0 + 16) = 12 := (hS0 16 _ rfl).1
  have la0_16 : gw_ln S (a0 + 16) = 16 := (hS0 16 _ rfl).2.1
  have ka0_8 : gw_kd S (a0 + 8) = 8 := (hS0 8 _ rfl).1
  have ra0_8_0 : gw_rf S (a0 + 8) 0 = a0 + 9 := (hS0 8 _ rfl).2.2 (0, 9) (by decide)
  have ka0_9 : gw_kd S (a0 + 9) = 12 := (hS0 9 _ rfl).1
  have la0_9 : gw_ln S (a0 + 9) = 16 := (hS0 9 _ rfl).2.1
  unfold F_X6_touchFrom at h
  refine hK _ _ _ _ _ _ _ ?_
  rw [fdX6_touchFrom_0]
  simp only [gt_nil, true_and, eq_self, gt_aload_n, gt_rfk, gw_nth, gt_get_r, gt_get_i, gt_get_z, gt_iload_n, gt_ink, gt_v0, gt_v1, gt_v2, gt_v3, gt_v4, gt_v5, gt_if, gt_dup_i, gt_dup_r, gt_iconst, gt_iadd, gt_put_i, gt_putz, gt_vret, bkX6_touchFrom_0, ka0_0, ra0_0_0, ra0_0_1, ka0_1, ra0_1_1, ka0_16, la0_16, ka0_8, ra0_8_0, ka0_9, la0_9]
  obtain ⟨⟨r_1, μ_2⟩, e_3, h⟩ := gw_bnd h
  refine ⟨rfl, 0, 0, Nat.le_refl _, Nat.le_refl _, ok_X8_gives (gw_sub hS0 8 8 (by decide +kernel)) e_3 ?_⟩
  intro hbr_1
  dsimp only at h
  simp only [gt_nil, true_and, eq_self, gt_if, gt_aload_n, gt_rfk, gw_nth, gt_dup_i, gt_dup_r, gt_get_r, gt_get_i, gt_get_z, gt_iconst, gt_iadd, gt_put_i, gt_putz, gt_iload_n, gt_ink, gt_v0, gt_v1, gt_v2, gt_v3, gt_v4, gt_v5, gt_vret, Option.toList, List.cons_append, List.nil_append, Nat.add_zero, ka0_0, ra0_0_0, ra0_0_1, ka0_1, ra0_1_1, ka0_16, la0_16, ka0_8, ra0_8_0, ka0_9, la0_9]
  refine ⟨fun c_5 => ?_, fun c_5 => ?_⟩
  · replace h := gw_ifp h c_5
    refine hK _ _ _ _ _ _ _ ?_
    rw [fdX6_touchFrom_42]
    simp only [gt_nil, true_and, eq_self, gt_aload_n, gt_rfk, gw_nth, gt_get_r, gt_get_i, gt_get_z, gt_iload_n, gt_ink, gt_iaload, gt_istore, gw_set, gt_iconst, gt_icmp, gt_iload, gt_iastore, gt_goto, bkX6_touchFrom_42, ka0_0, ra0_0_0, ra0_0_1, ka0_1, ra0_1_1, ka0_16, la0_16, ka0_8, ra0_8_0, ka0_9, la0_9]
    obtain ⟨c_6, h⟩ := gw_ife h
    refine ⟨c_6, ?_⟩
    obtain ⟨w_7, hw_7, h⟩ := gw_lt h
    try rw [← hw_7]
    refine ⟨fun c_8 => ?_, fun c_8 => ?_⟩
    · replace h := gw_ifp h c_8
      refine hK _ _ _ _ _ _ _ ?_
      rw [fdX6_touchFrom_73]
      simp only [gt_nil, true_and, eq_self, gt_aload_n, gt_rfk, gw_nth, gt_get_r, gt_get_i, gt_get_z, gt_iload, gt_ink, gt_iaload, gt_put_i, gt_putz, bkX6_touchFrom_73, ka0_0, ra0_0_0, ra0_0_1, ka0_1, ra0_1_1, ka0_16, la0_16, ka0_8, ra0_8_0, ka0_9, la0_9]
      obtain ⟨c_9, h⟩ := gw_ife h
      refine ⟨c_9, ?_⟩
      obtain ⟨μ_10, hμ_10, h⟩ := gw_lt h
      try rw [← hμ_10]
      refine hK _ _ _ _ _ _ _ ?_
      rw [fdX6_touchFrom_84]
      simp only [gt_nil, true_and, eq_self, gt_vret, bkX6_touchFrom_84, ka0_0, ra0_0_0, ra0_0_1, ka0_1, ra0_1_1, ka0_16, la0_16, ka0_8, ra0_8_0, ka0_9, la0_9]
      cases h
      exact ⟨Nat.le_refl _, Nat.le_refl _, hq⟩
    · replace h := gw_ifn h c_8
      obtain ⟨c_11, h⟩ := gw_ife h
      refine ⟨c_11, ?_⟩
      obtain ⟨μ_12, hμ_12, h⟩ := gw_lt h
      try rw [← hμ_12]
      refine hK _ _ _ _ _ _ _ ?_
      rw [fdX6_touchFrom_84]
      simp only [gt_nil, true_and, eq_self, gt_vret, bkX6_touchFrom_84, ka0_0, ra0_0_0, ra0_0_1, ka0_1, ra0_1_1, ka0_16, la0_16, ka0_8, ra0_8_0, ka0_9, la0_9]
      cases h
      exact ⟨Nat.le_refl _, Nat.le_refl _, hq⟩
  · replace h := gw_ifn h c_5
    obtain ⟨μ_13, hμ_13, h⟩ := gw_lt h
    try rw [← hμ_13]
    obtain ⟨μ_14, hμ_14, h⟩ := gw_lt h
    try rw [← hμ_14]
    obtain ⟨μ_16, e_17, h⟩ := gw_bnd h
    refine ⟨rfl, 0, 0, Nat.le_refl _, Nat.le_refl _, ok_X1_trapAt (gw_sub hS0 1 1 (by decide +kernel)) e_17 ?_⟩
    simp only [gt_nil, true_and, eq_self, gt_vret, Option.toList, List.cons_append, List.nil_append, Nat.add_zero, ka0_0, ra0_0_0, ra0_0_1, ka0_1, ra0_1_1, ka0_16, la0_16, ka0_8, ra0_8_0, ka0_9, la0_9]
    cases h
    exact ⟨Nat.le_refl _, Nat.le_refl _, hq⟩
def F_X6_goOn (n0 : Nat) (a0 : Nat) (μ : gw_M) : Option (gw_M) := (if ¬ (μ (a0 + 3) 3) = 0 then (F_X7_advance n0 (a0 + 3) μ).bind (fun (z_5 : Int32 × gw_M) => (if 0 ≤ z_5.1 ∧ z_5.1.toNatClampNeg < 24 then gw_let ((z_5.2 (a0 + 4) z_5.1.toNatClampNeg)) (fun (w_7 : Int32) => (F_X10_isWay n0 w_7 z_5.2).bind (fun (z_11 : Int32 × gw_M) => (if z_11.1 = 0 then (if 0 ≤ z_5.1 ∧ z_5.1.toNatClampNeg < 24 then (if 0 ≤ z_5.1 ∧ z_5.1.toNatClampNeg < 24 then (F_X1_actAlone n0 (a0 + 1) w_7 (z_11.2 (a0 + 5) z_5.1.toNatClampNeg) (z_11.2 (a0 + 6) z_5.1.toNatClampNeg) z_11.2).bind (fun (μ_16 : gw_M) => some μ_16) else none) else none) else (if 0 ≤ z_5.1 ∧ z_5.1.toNatClampNeg < 24 then (if 0 ≤ z_5.1 ∧ z_5.1.toNatClampNeg < 24 then (F_X6_touchFrom n0 a0 z_5.1 (z_11.2 (a0 + 5) z_5.1.toNatClampNeg) w_7 (z_11.2 (a0 + 6) z_5.1.toNatClampNeg) z_11.2).bind (fun (μ_22 : gw_M) => some μ_22) else none) else none)))) else none)) else some μ)
theorem ok_X6_goOn {l : Launch} {x : gw_C} {d : Nat} {S : gw_S} {Q : Option Value → gw_S → gw_M → Prop} {a0 : Nat} {n0 : Nat} {μ : gw_M} {μ'} (hS0 : gw_sh S 6 a0) (h : F_X6_goOn n0 a0 μ = some μ') (hq : Q none S μ') : gw_ok l x (d + 4) sgX6_goOn 0 0 [.ref a0] S μ Q := by
  refine gw_ok_of stX6_goOn (lv0 := [.ref a0, .retAddr 0, .retAddr 0, .retAddr 0]) (Nat.le_of_ble_eq_true rfl) rfl rfl ?_
  intro K hK
  have ka0_0 : gw_kd S a0 = 6 := (hS0 0 _ rfl).1
  have ra0_0_0 : gw_rf S a0 0 = a0 + 1 := (hS0 0 _ rfl).2.2 (0, 1) (by decide)
  have ka0_1 : gw_kd S (a0 + 1) = 1 := (hS0 1 _ rfl).1
  have ra0_1_0 : gw_rf S (a0 + 1) 0 = a0 + 2 := (hS0 1 _ rfl).2.2 (0, 2) (by decide)
  have ka0_2 : gw_kd S (a0 + 2) = 0 := (hS0 2 _ rfl).1
  have ra0_2_0 : gw_rf S (a0 + 2) 0 = a0 + 3 := (hS0 2 _ rfl).2.2 (0, 3) (by decide)
  have ka0_3 : gw_kd S (a0 + 3) = 7 := (hS0 3 _ rfl).1
  have ra0_3_0 : gw_rf S (a0 + 3) 0 = a0 + 4 := (hS0 3 _ rfl).2.2 (0, 4) (by decide)
  have ra0_3_1 : gw_rf S (a0 + 3) 1 = a0 + 5 := (hS0 3 _ rfl).2.2 (1, 5) (by decide)
  have ra0_3_2 : gw_rf S (a0 + 3) 2 = a0 + 6 := (hS0 3 _ rfl).2.2 (2, 6) (by decide)
  have ka0_4 : gw_kd S (a0 + 4) = 12 := (hS0 4 _ rfl).1
  have la0_4 : gw_ln S (a0 + 4) = 24 := (hS0 4 _ rfl).2.1
  have ka0_5 : gw_kd S (a0 + 5) = 12 := (hS0 5 _ rfl).1
  have la0_5 : gw_ln S (a0 + 5) = 24 := (hS0 5 _ rfl).2.1
  have ka0_6 : gw_kd S (a0 + 6) = 12 := (hS0 6 _ rfl).1
  have la0_6 : gw_ln S (a0 + 6) = 24 := (hS0 6 _ rfl).2.1
  unfold F_X6_goOn at h
  refine hK _ _ _ _ _ _ _ ?_
  rw [fdX6_goOn_0]
  simp only [gt_nil, true_and, eq_self, gt_aload_n, gt_rfk, gw_nth, gt_get_r, gt_get_i, gt_get_z, gt_astore_n, gw_set, gt_if, gt_vret, bkX6_goOn_0, ka0_0, ra0_0_0, ka0_1, ra0_1_0, ka0_2, ra0_2_0, ka0_3, ra0_3_0, ra0_3_1, ra0_3_2, ka0_4, la0_4, ka0_5, la0_5, ka0_6, la0_6]
  refine ⟨fun c_1 => ?_, fun c_1 => ?_⟩
  · replace h := gw_ifp h c_1
    refine hK _ _ _ _ _ _ _ ?_
    rw [fdX6_goOn_19]
    simp only [gt_nil, true_and, eq_self, gt_aload_n, gt_rfk, gw_nth, gt_v0, gt_v1, gt_v2, gt_v3, gt_v4, gt_v5, gt_istore_n, gw_set, gt_get_r, gt_get_i, gt_get_z, gt_iload_n, gt_ink, gt_iaload, gt_s1_0, gt_s2_0, gt_s3_0, gt_s4_0, gt_s1_1, gt_s2_1, gt_s3_1, gt_s4_1, gt_acpy, gt_if, gt_goto, bkX6_goOn_19, ka0_0, ra0_0_0, ka0_1, ra0_1_0, ka0_2, ra0_2_0, ka0_3, ra0_3_0, ra0_3_1, ra0_3_2, ka0_4, la0_4, ka0_5, la0_5, ka0_6, la0_6]
    obtain ⟨⟨r_2, μ_3⟩, e_4, h⟩ := gw_bnd h
    refine ⟨rfl, 0, 0, Nat.le_refl _, Nat.le_refl _, ok_X7_advance (gw_sub hS0 7 3 (by decide +kernel)) e_4 ?_⟩
    dsimp only at h
    simp only [gt_nil, true_and, eq_self, gt_istore_n, gw_set, gt_aload_n, gt_rfk, gw_nth, gt_get_r, gt_get_i, gt_get_z, gt_iload_n, gt_ink, gt_iaload, gt_s1_0, gt_s2_0, gt_s3_0, gt_s4_0, gt_s1_1, gt_s2_1, gt_s3_1, gt_s4_1, gt_acpy, gt_if, gt_v0, gt_v1, gt_v2, gt_v3, gt_v4, gt_v5, gt_goto, Option.toList, List.cons_append, List.nil_append, Nat.add_zero, ka0_0, ra0_0_0, ka0_1, ra0_1_0, ka0_2, ra0_2_0, ka0_3, ra0_3_0, ra0_3_1, ra0_3_2, ka0_4, la0_4, ka0_5, la0_5, ka0_6, la0_6]
    obtain ⟨c_6, h⟩ := gw_ife h
    refine ⟨c_6, ?_⟩
    obtain ⟨w_7, hw_7, h⟩ := gw_lt h
    try rw [← hw_7]
    obtain ⟨⟨r_8, μ_9⟩, e_10, h⟩ := gw_bnd h
    refine ⟨rfl, 0, 0, Nat.le_refl _, Nat.le_refl _, ok_X10_isWay e_10 ?_⟩
    intro hbr_8
    dsimp only at h
    simp only [gt_nil, true_and, eq_self, gt_if, gt_aload_n, gt_rfk, gw_nth, gt_iload_n, gt_ink, gt_get_r, gt_get_i, gt_get_z, gt_iaload, gt_v0, gt_v1, gt_v2, gt_v3, gt_v4, gt_v5, gt_goto, Option.toList, List.cons_append, List.nil_append, Nat.add_zero, ka0_0, ra0_0_0, ka0_1, ra0_1_0, ka0_2, ra0_2_0, ka0_3, ra0_3_0, ra0_3_1, ra0_3_2, ka0_4, la0_4, ka0_5, la0_5, ka0_6, la0_6]
    refine ⟨fun c_12 => ?_, fun c_12 => ?_⟩
    · replace h := gw_ifp h c_12
      refine hK _ _ _ _ _ _ _ ?_
      rw [fdX6_goOn_59]
      simp only [gt_nil, true_and, eq_self, gt_aload_n, gt_rfk, gw_nth, gt_get_r, gt_get_i, gt_get_z, gt_iload_n, gt_ink, gt_iaload, gt_v0, gt_v1, gt_v2, gt_v3, gt_v4, gt_v5, bkX6_goOn_59, ka0_0, ra0_0_0, ka0_1, ra0_1_0, ka0_2, ra0_2_0, ka0_3, ra0_3_0, ra0_3_1, ra0_3_2, ka0_4, la0_4, ka0_5, la0_5, ka0_6, la0_6]
      obtain ⟨c_13, h⟩ := gw_ife h
      refine ⟨c_13, ?_⟩
      obtain ⟨c_14, h⟩ := gw_ife h
      refine ⟨c_14, ?_⟩
      obtain ⟨μ_16, e_17, h⟩ := gw_bnd h
      refine ⟨rfl, 0, 0, Nat.le_refl _, Nat.le_refl _, ok_X1_actAlone (gw_sub hS0 1 1 (by decide +kernel)) e_17 ?_⟩
      simp only [gt_nil, true_and, eq_self, Option.toList, List.cons_append, List.nil_append, Nat.add_zero, ka0_0, ra0_0_0, ka0_1, ra0_1_0, ka0_2, ra0_2_0, ka0_3, ra0_3_0, ra0_3_1, ra0_3_2, ka0_4, la0_4, ka0_5, la0_5, ka0_6, la0_6]
      refine hK _ _ _ _ _ _ _ ?_
      rw [fdX6_goOn_79]
      simp only [gt_nil, true_and, eq_self, gt_vret, bkX6_goOn_79, ka0_0, ra0_0_0, ka0_1, ra0_1_0, ka0_2, ra0_2_0, ka0_3, ra0_3_0, ra0_3_1, ra0_3_2, ka0_4, la0_4, ka0_5, la0_5, ka0_6, la0_6]
      cases h
      exact ⟨Nat.le_refl _, Nat.le_refl _, hq⟩
    · replace h := gw_ifn h c_12
      obtain ⟨c_19, h⟩ := gw_ife h
      refine ⟨c_19, ?_⟩
      obtain ⟨c_20, h⟩ := gw_ife h
      refine ⟨c_20, ?_⟩
      obtain ⟨μ_22, e_23, h⟩ := gw_bnd h
      refine ⟨rfl, 0, 0, Nat.le_refl _, Nat.le_refl _, ok_X6_touchFrom hS0 e_23 ?_⟩
      simp only [gt_nil, true_and, eq_self, gt_goto, Option.toList, List.cons_append, List.nil_append, Nat.add_zero, ka0_0, ra0_0_0, ka0_1, ra0_1_0, ka0_2, ra0_2_0, ka0_3, ra0_3_0, ra0_3_1, ra0_3_2, ka0_4, la0_4, ka0_5, la0_5, ka0_6, la0_6]
      refine hK _ _ _ _ _ _ _ ?_
      rw [fdX6_goOn_79]
      simp only [gt_nil, true_and, eq_self, gt_vret, bkX6_goOn_79, ka0_0, ra0_0_0, ka0_1, ra0_1_0, ka0_2, ra0_2_0, ka0_3, ra0_3_0, ra0_3_1, ra0_3_2, ka0_4, la0_4, ka0_5, la0_5, ka0_6, la0_6]
      cases h
      exact ⟨Nat.le_refl _, Nat.le_refl _, hq⟩
  · replace h := gw_ifn h c_1
    cases h
    exact ⟨Nat.le_refl _, Nat.le_refl _, hq⟩
def F_X7_add (n0 : Nat) (a0 : Nat) (v1 : Int32) (v2 : Int32) (v3 : Int32) (μ : gw_M) : Option (gw_M) := (if 0 ≤ (μ a0 3) ∧ (μ a0 3).toNatClampNeg < 24 then gw_let (gw_up μ (a0 + 1) (μ a0 3).toNatClampNeg v1) (fun (μ_2 : gw_M) => (if 0 ≤ (μ_2 a0 3) ∧ (μ_2 a0 3).toNatClampNeg < 24 then gw_let (gw_up μ_2 (a0 + 2) (μ_2 a0 3).toNatClampNeg v2) (fun (μ_4 : gw_M) => (if 0 ≤ (μ_4 a0 3) ∧ (μ_4 a0 3).toNatClampNeg < 24 then gw_let (gw_up μ_4 (a0 + 3) (μ_4 a0 3).toNatClampNeg v3) (fun (μ_6 : gw_M) => gw_let (gw_up μ_6 a0 3 ((μ_6 a0 3) + (1 : Int32))) (fun (μ_7 : gw_M) => some μ_7)) else none)) else none)) else none)
theorem ok_X7_add {l : Launch} {x : gw_C} {d : Nat} {S : gw_S} {Q : Option Value → gw_S → gw_M → Prop} {v1 v2 v3 : Int32} {a0 : Nat} {n0 : Nat} {μ : gw_M} {μ'} (hS0 : gw_sh S 7 a0) (h : F_X7_add n0 a0 v1 v2 v3 μ = some μ') (hq : Q none S μ') : gw_ok l x (d + 1) sgX7_add 0 0 [.ref a0, .int v1, .int v2, .int v3] S μ Q := by
  refine gw_ok_of stX7_add (lv0 := [.ref a0, .int v1, .int v2, .int v3]) (Nat.le_of_ble_eq_true rfl) rfl rfl ?_
  intro K hK
  have ka0_0 : gw_kd S a0 = 7 := (hS0 0 _ rfl).1
  have ra0_0_0 : gw_rf S a0 0 = a0 + 1 := (hS0 0 _ rfl).2.2 (0, 1) (by decide)
  have ra0_0_1 : gw_rf S a0 1 = a0 + 2 := (hS0 0 _ rfl).2.2 (1, 2) (by decide)
  have ra0_0_2 : gw_rf S a0 2 = a0 + 3 := (hS0 0 _ rfl).2.2 (2, 3) (by decide)
  have ka0_1 : gw_kd S (a0 + 1) = 12 := (hS0 1 _ rfl).1
  have la0_1 : gw_ln S (a0 + 1) = 24 := (hS0 1 _ rfl).2.1
  have ka0_2 : gw_kd S (a0 + 2) = 12 := (hS0 2 _ rfl).1
  have la0_2 : gw_ln S (a0 + 2) = 24 := (hS0 2 _ rfl).2.1
  have ka0_3 : gw_kd S (a0 + 3) = 12 := (hS0 3 _ rfl).1
  have la0_3 : gw_ln S (a0 + 3) = 24 := (hS0 3 _ rfl).2.1
  unfold F_X7_add at h
  refine hK _ _ _ _ _ _ _ ?_
  rw [fdX7_add_0]
  simp only [gt_nil, true_and, eq_self, gt_aload_n, gt_rfk, gw_nth, gt_get_r, gt_get_i, gt_get_z, gt_iload_n, gt_ink, gt_iastore, gt_dup_i, gt_dup_r, gt_iconst, gt_iadd, gt_put_i, gt_putz, gt_vret, bkX7_add_0, ka0_0, ra0_0_0, ra0_0_1, ra0_0_2, ka0_1, la0_1, ka0_2, la0_2, ka0_3, la0_3]
  obtain ⟨c_1, h⟩ := gw_ife h
  refine ⟨c_1, ?_⟩
  obtain ⟨μ_2, hμ_2, h⟩ := gw_lt h
  try rw [← hμ_2]
  obtain ⟨c_3, h⟩ := gw_ife h
  refine ⟨c_3, ?_⟩
  obtain ⟨μ_4, hμ_4, h⟩ := gw_lt h
  try rw [← hμ_4]
  obtain ⟨c_5, h⟩ := gw_ife h
  refine ⟨c_5, ?_⟩
  obtain ⟨μ_6, hμ_6, h⟩ := gw_lt h
  try rw [← hμ_6]
  obtain ⟨μ_7, hμ_7, h⟩ := gw_lt h
  try rw [← hμ_7]
  cases h
  exact ⟨Nat.le_refl _, Nat.le_refl _, hq⟩
def F_X8_elderThan_38 (rec4 : Int32 → Int32 → Int32 → gw_M → Option (Int32 × gw_M)) (n0 : Nat) (a0 : Nat) (v1 : Int32) (v2 : Int32) (v3 : Int32) (μ : gw_M) : Option (Int32 × gw_M) := gw_let (v3 + 1) (fun (w_1 : Int32) => rec4 v1 v2 w_1 μ)
def F_X8_elderThan_4 (n0 : Nat) (a0 : Nat) : Nat → Int32 → Int32 → Int32 → gw_M → Option (Int32 × gw_M)
  | 0, _, _, _, _ => none
  | n + 1, v1, v2, v3, μ => (if 16 ≤ v3 then some (v2, μ) else (if 0 ≤ v3 ∧ v3.toNatClampNeg < 16 then (if (μ (a0 + 1) v3.toNatClampNeg) = (-1) then F_X8_elderThan_38 (F_X8_elderThan_4 n0 a0 n) n0 a0 v1 v2 v3 μ else (if 0 ≤ v3 ∧ v3.toNatClampNeg < 16 then (if 0 ≤ v1 ∧ v1.toNatClampNeg < 16 then (if (μ (a0 + 3) v1.toNatClampNeg) ≤ (μ (a0 + 3) v3.toNatClampNeg) then F_X8_elderThan_38 (F_X8_elderThan_4 n0 a0 n) n0 a0 v1 v2 v3 μ else gw_let (v2 + 1) (fun (w_7 : Int32) => F_X8_elderThan_38 (F_X8_elderThan_4 n0 a0 n) n0 a0 v1 w_7 v3 μ)) else none) else none)) else none))
def F_X8_elderThan (n0 : Nat) (a0 : Nat) (v1 : Int32) (μ : gw_M) : Option (Int32 × gw_M) := F_X8_elderThan_4 n0 a0 n0 v1 0 0 μ
theorem B_X8_elderThan_38 {l : Launch} {x : gw_C} {d : Nat} {S : gw_S} {Q : Option Value → gw_S → gw_M → Prop} {K : Nat → gw_Kt} (hK : gw_cl l x (d + 0) bsX8_elderThan Q K) {a0 : Nat} (hS0 : gw_sh S 8 a0) {rec4 : Int32 → Int32 → Int32 → gw_M → Option (Int32 × gw_M)} (hrec4 : ∀ {v1 v2 v3} {μ : gw_M} {r μ'}, rec4 v1 v2 v3 μ = some (r, μ') → Q (some (.int r)) S μ' → K 4 [.ref a0, .int v1, .int v2, .int v3] [] S μ 0 0) {n0 : Nat} {v1 v2 v3} {μ : gw_M} {r μ'} (h : F_X8_elderThan_38 rec4 n0 a0 v1 v2 v3 μ = some (r, μ')) (hq : Q (some (.int r)) S μ') : K 38 [.ref a0, .int v1, .int v2, .int v3] [] S μ 0 0 := by
  unfold F_X8_elderThan_38 at h
  refine hK _ _ _ _ _ _ _ ?_
  rw [fdX8_elderThan_38]
  simp only [gt_nil, true_and, eq_self, gt_iinc, gt_ink, gw_nth, gw_set, gt_goto, bkX8_elderThan_38]
  obtain ⟨w_1, hw_1, h⟩ := gw_lt h
  try rw [← hw_1]
  exact hrec4 h hq
theorem B_X8_elderThan_4 {l : Launch} {x : gw_C} {d : Nat} {S : gw_S} {Q : Option Value → gw_S → gw_M → Prop} {K : Nat → gw_Kt} (hK : gw_cl l x (d + 0) bsX8_elderThan Q K) {a0 : Nat} (hS0 : gw_sh S 8 a0) {n0 : Nat} : ∀ {n : Nat} {v1 v2 v3} {μ : gw_M} {r μ'}, F_X8_elderThan_4 n0 a0 n v1 v2 v3 μ = some (r, μ') → Q (some (.int r)) S μ' → K 4 [.ref a0, .int v1, .int v2, .int v3] [] S μ 0 0 := by
  have ka0_0 : gw_kd S a0 = 8 := (hS0 0 _ rfl).1
  have ra0_0_0 : gw_rf S a0 0 = a0 + 1 := (hS0 0 _ rfl).2.2 (0, 1) (by decide)
  have ra0_0_2 : gw_rf S a0 2 = a0 + 3 := (hS0 0 _ rfl).2.2 (2, 3) (by decide)
  have ka0_1 : gw_kd S (a0 + 1) = 12 := (hS0 1 _ rfl).1
  have la0_1 : gw_ln S (a0 + 1) = 16 := (hS0 1 _ rfl).2.1
  have ka0_3 : gw_kd S (a0 + 3) = 12 := (hS0 3 _ rfl).1
  have la0_3 : gw_ln S (a0 + 3) = 16 := (hS0 3 _ rfl).2.1
  intro n
  induction n with
  | zero => intro v1 v2 v3 μ r μ' h hq; simp [F_X8_elderThan_4] at h
  | succ n ih =>
    intro v1 v2 v3 μ r μ' h hq
    simp only [F_X8_elderThan_4] at h
    refine hK _ _ _ _ _ _ _ ?_
    rw [fdX8_elderThan_4]
    simp only [gt_nil, true_and, eq_self, gt_iload_n, gt_ink, gw_nth, gt_bipush, gt_icmp, gt_aload_n, gt_rfk, gt_get_r, gt_get_i, gt_get_z, gt_iaload, gt_iconst, gt_iinc, gw_set, bkX8_elderThan_4, ka0_0, ra0_0_0, ra0_0_2, ka0_1, la0_1, ka0_3, la0_3]
    refine ⟨fun c_1 => ?_, fun c_1 => ?_⟩
    · replace h := gw_ifp h c_1
      refine hK _ _ _ _ _ _ _ ?_
      rw [fdX8_elderThan_44]
      simp only [gt_nil, true_and, eq_self, gt_iload_n, gt_ink, gw_nth, gt_iret, gt_retz, bkX8_elderThan_44, ka0_0, ra0_0_0, ra0_0_2, ka0_1, la0_1, ka0_3, la0_3]
      cases h
      exact ⟨Nat.le_refl _, Nat.le_refl _, hq⟩
    · replace h := gw_ifn h c_1
      obtain ⟨c_2, h⟩ := gw_ife h
      refine ⟨c_2, ?_⟩
      refine ⟨fun c_3 => ?_, fun c_3 => ?_⟩
      · replace h := gw_ifp h c_3
        exact B_X8_elderThan_38 hK hS0 ih h hq
      · replace h := gw_ifn h c_3
        obtain ⟨c_4, h⟩ := gw_ife h
        refine ⟨c_4, ?_⟩
        obtain ⟨c_5, h⟩ := gw_ife h
        refine ⟨c_5, ?_⟩
        refine ⟨fun c_6 => ?_, fun c_6 => ?_⟩
        · replace h := gw_ifp h c_6
          exact B_X8_elderThan_38 hK hS0 ih h hq
        · replace h := gw_ifn h c_6
          obtain ⟨w_7, hw_7, h⟩ := gw_lt h
          try rw [← hw_7]
          exact B_X8_elderThan_38 hK hS0 ih h hq
theorem ok_X8_elderThan {l : Launch} {x : gw_C} {d : Nat} {S : gw_S} {Q : Option Value → gw_S → gw_M → Prop} {v1 : Int32} {a0 : Nat} {n0 : Nat} {μ : gw_M} {r μ'} (hS0 : gw_sh S 8 a0) (h : F_X8_elderThan n0 a0 v1 μ = some (r, μ')) (hq : Q (some (.int r)) S μ') : gw_ok l x (d + 1) sgX8_elderThan 0 0 [.ref a0, .int v1] S μ Q := by
  refine gw_ok_of stX8_elderThan (lv0 := [.ref a0, .int v1, .retAddr 0, .retAddr 0]) (Nat.le_of_ble_eq_true rfl) rfl rfl ?_
  intro K hK
  unfold F_X8_elderThan at h
  refine hK _ _ _ _ _ _ _ ?_
  rw [fdX8_elderThan_0]
  simp only [gt_nil, true_and, eq_self, gt_iconst, gt_istore_n, gw_set, bkX8_elderThan_0]
  exact B_X8_elderThan_4 hK hS0 h hq
def F_X8_byAge_29 (rec2 : Int32 → Int32 → gw_M → Option (Int32 × gw_M)) (n0 : Nat) (a0 : Nat) (v1 : Int32) (v2 : Int32) (μ : gw_M) : Option (Int32 × gw_M) := gw_let (v2 + 1) (fun (w_1 : Int32) => rec2 v1 w_1 μ)
def F_X8_byAge_2 (n0 : Nat) (a0 : Nat) : Nat → Int32 → Int32 → gw_M → Option (Int32 × gw_M)
  | 0, _, _, _ => none
  | n + 1, v1, v2, μ => (if 16 ≤ v2 then some ((-1), μ) else (if 0 ≤ v2 ∧ v2.toNatClampNeg < 16 then (if (μ (a0 + 1) v2.toNatClampNeg) = (-1) then F_X8_byAge_29 (F_X8_byAge_2 n0 a0 n) n0 a0 v1 v2 μ else (F_X8_elderThan n0 a0 v2 μ).bind (fun (z_7 : Int32 × gw_M) => (if ¬ z_7.1 = v1 then F_X8_byAge_29 (F_X8_byAge_2 n0 a0 n) n0 a0 v1 v2 z_7.2 else some (v2, z_7.2)))) else none))
def F_X8_byAge (n0 : Nat) (a0 : Nat) (v1 : Int32) (μ : gw_M) : Option (Int32 × gw_M) := F_X8_byAge_2 n0 a0 n0 v1 0 μ
theorem B_X8_byAge_29 {l : Launch} {x : gw_C} {d : Nat} {S : gw_S} {Q : Option Value → gw_S → gw_M → Prop} {K : Nat → gw_Kt} (hK : gw_cl l x (d + 1) bsX8_byAge Q K) {a0 : Nat} (hS0 : gw_sh S 8 a0) {rec2 : Int32 → Int32 → gw_M → Option (Int32 × gw_M)} (hrec2 : ∀ {v1 v2} {μ : gw_M} {r μ'}, rec2 v1 v2 μ = some (r, μ') → Q (some (.int r)) S μ' → K 2 [.ref a0, .int v1, .int v2] [] S μ 0 0) {n0 : Nat} {v1 v2} {μ : gw_M} {r μ'} (h : F_X8_byAge_29 rec2 n0 a0 v1 v2 μ = some (r, μ')) (hq : Q (some (.int r)) S μ') : K 29 [.ref a0, .int v1, .int v2] [] S μ 0 0 := by
  unfold F_X8_byAge_29 at h
  refine hK _ _ _ _ _ _ _ ?_
  rw [fdX8_byAge_29]
  simp only [gt_nil, true_and, eq_self, gt_iinc, gt_ink, gw_nth, gw_set, gt_goto, bkX8_byAge_29]
  obtain ⟨w_1, hw_1, h⟩ := gw_lt h
  try rw [← hw_1]
  exact hrec2 h hq
theorem B_X8_byAge_2 {l : Launch} {x : gw_C} {d : Nat} {S : gw_S} {Q : Option Value → gw_S → gw_M → Prop} {K : Nat → gw_Kt} (hK : gw_cl l x (d + 1) bsX8_byAge Q K) {a0 : Nat} (hS0 : gw_sh S 8 a0) {n0 : Nat} : ∀ {n : Nat} {v1 v2} {μ : gw_M} {r μ'}, F_X8_byAge_2 n0 a0 n v1 v2 μ = some (r, μ') → Q (some (.int r)) S μ' → K 2 [.ref a0, .int v1, .int v2] [] S μ 0 0 := by
  have ka0_0 : gw_kd S a0 = 8 := (hS0 0 _ rfl).1
  have ra0_0_0 : gw_rf S a0 0 = a0 + 1 := (hS0 0 _ rfl).2.2 (0, 1) (by decide)
  have ka0_1 : gw_kd S (a0 + 1) = 12 := (hS0 1 _ rfl).1
  have la0_1 : gw_ln S (a0 + 1) = 16 := (hS0 1 _ rfl).2.1
  intro n
  induction n with
  | zero => intro v1 v2 μ r μ' h hq; simp [F_X8_byAge_2] at h
  | succ n ih =>
    intro v1 v2 μ r μ' h hq
    simp only [F_X8_byAge_2] at h
    refine hK _ _ _ _ _ _ _ ?_
    rw [fdX8_byAge_2]
    simp only [gt_nil, true_and, eq_self, gt_iload_n, gt_ink, gw_nth, gt_bipush, gt_icmp, gt_aload_n, gt_rfk, gt_get_r, gt_get_i, gt_get_z, gt_iaload, gt_iconst, gt_v0, gt_v1, gt_v2, gt_v3, gt_v4, gt_v5, gt_iret, gt_retz, bkX8_byAge_2, ka0_0, ra0_0_0, ka0_1, la0_1]
    refine ⟨fun c_1 => ?_, fun c_1 => ?_⟩
    · replace h := gw_ifp h c_1
      refine hK _ _ _ _ _ _ _ ?_
      rw [fdX8_byAge_35]
      simp only [gt_nil, true_and, eq_self, gt_iconst, gt_iret, gt_retz, bkX8_byAge_35, ka0_0, ra0_0_0, ka0_1, la0_1]
      cases h
      exact ⟨Nat.le_refl _, Nat.le_refl _, hq⟩
    · replace h := gw_ifn h c_1
      obtain ⟨c_2, h⟩ := gw_ife h
      refine ⟨c_2, ?_⟩
      refine ⟨fun c_3 => ?_, fun c_3 => ?_⟩
      · replace h := gw_ifp h c_3
        exact B_X8_byAge_29 hK hS0 ih h hq
      · replace h := gw_ifn h c_3
        obtain ⟨⟨r_4, μ_5⟩, e_6, h⟩ := gw_bnd h
        refine ⟨rfl, 0, 0, Nat.le_refl _, Nat.le_refl _, ok_X8_elderThan hS0 e_6 ?_⟩
        dsimp only at h
        simp only [gt_nil, true_and, eq_self, gt_iload_n, gt_ink, gw_nth, gt_icmp, gt_iret, gt_retz, Option.toList, List.cons_append, List.nil_append, Nat.add_zero, ka0_0, ra0_0_0, ka0_1, la0_1]
        refine ⟨fun c_8 => ?_, fun c_8 => ?_⟩
        · replace h := gw_ifp h c_8
          exact B_X8_byAge_29 hK hS0 ih h hq
        · replace h := gw_ifn h c_8
          cases h
          exact ⟨Nat.le_refl _, Nat.le_refl _, hq⟩
theorem ok_X8_byAge {l : Launch} {x : gw_C} {d : Nat} {S : gw_S} {Q : Option Value → gw_S → gw_M → Prop} {v1 : Int32} {a0 : Nat} {n0 : Nat} {μ : gw_M} {r μ'} (hS0 : gw_sh S 8 a0) (h : F_X8_byAge n0 a0 v1 μ = some (r, μ')) (hq : Q (some (.int r)) S μ') : gw_ok l x (d + 2) sgX8_byAge 0 0 [.ref a0, .int v1] S μ Q := by
  refine gw_ok_of stX8_byAge (lv0 := [.ref a0, .int v1, .retAddr 0]) (Nat.le_of_ble_eq_true rfl) rfl rfl ?_
  intro K hK
  unfold F_X8_byAge at h
  refine hK _ _ _ _ _ _ _ ?_
  rw [fdX8_byAge_0]
  simp only [gt_nil, true_and, eq_self, gt_iconst, gt_istore_n, gw_set, bkX8_byAge_0]
  exact B_X8_byAge_2 hK hS0 h hq
def F_X9_add (n0 : Nat) (a0 : Nat) (v1 : Int32) (v2 : Int32) (v3 : Int32) (μ : gw_M) : Option (gw_M) := (if 0 ≤ (μ a0 3) ∧ (μ a0 3).toNatClampNeg < 12 then gw_let (gw_up μ (a0 + 1) (μ a0 3).toNatClampNeg v1) (fun (μ_2 : gw_M) => (if 0 ≤ (μ_2 a0 3) ∧ (μ_2 a0 3).toNatClampNeg < 12 then gw_let (gw_up μ_2 (a0 + 2) (μ_2 a0 3).toNatClampNeg v2) (fun (μ_4 : gw_M) => (if 0 ≤ (μ_4 a0 3) ∧ (μ_4 a0 3).toNatClampNeg < 12 then gw_let (gw_up μ_4 (a0 + 3) (μ_4 a0 3).toNatClampNeg v3) (fun (μ_6 : gw_M) => gw_let (gw_up μ_6 a0 3 ((μ_6 a0 3) + (1 : Int32))) (fun (μ_7 : gw_M) => some μ_7)) else none)) else none)) else none)
theorem ok_X9_add {l : Launch} {x : gw_C} {d : Nat} {S : gw_S} {Q : Option Value → gw_S → gw_M → Prop} {v1 v2 v3 : Int32} {a0 : Nat} {n0 : Nat} {μ : gw_M} {μ'} (hS0 : gw_sh S 9 a0) (h : F_X9_add n0 a0 v1 v2 v3 μ = some μ') (hq : Q none S μ') : gw_ok l x (d + 1) sgX9_add 0 0 [.ref a0, .int v1, .int v2, .int v3] S μ Q := by
  refine gw_ok_of stX9_add (lv0 := [.ref a0, .int v1, .int v2, .int v3]) (Nat.le_of_ble_eq_true rfl) rfl rfl ?_
  intro K hK
  have ka0_0 : gw_kd S a0 = 9 := (hS0 0 _ rfl).1
  have ra0_0_0 : gw_rf S a0 0 = a0 + 1 := (hS0 0 _ rfl).2.2 (0, 1) (by decide)
  have ra0_0_1 : gw_rf S a0 1 = a0 + 2 := (hS0 0 _ rfl).2.2 (1, 2) (by decide)
  have ra0_0_2 : gw_rf S a0 2 = a0 + 3 := (hS0 0 _ rfl).2.2 (2, 3) (by decide)
  have ka0_1 : gw_kd S (a0 + 1) = 12 := (hS0 1 _ rfl).1
  have la0_1 : gw_ln S (a0 + 1) = 12 := (hS0 1 _ rfl).2.1
  have ka0_2 : gw_kd S (a0 + 2) = 12 := (hS0 2 _ rfl).1
  have la0_2 : gw_ln S (a0 + 2) = 12 := (hS0 2 _ rfl).2.1
  have ka0_3 : gw_kd S (a0 + 3) = 12 := (hS0 3 _ rfl).1
  have la0_3 : gw_ln S (a0 + 3) = 12 := (hS0 3 _ rfl).2.1
  unfold F_X9_add at h
  refine hK _ _ _ _ _ _ _ ?_
  rw [fdX9_add_0]
  simp only [gt_nil, true_and, eq_self, gt_aload_n, gt_rfk, gw_nth, gt_get_r, gt_get_i, gt_get_z, gt_iload_n, gt_ink, gt_iastore, gt_dup_i, gt_dup_r, gt_iconst, gt_iadd, gt_put_i, gt_putz, gt_vret, bkX9_add_0, ka0_0, ra0_0_0, ra0_0_1, ra0_0_2, ka0_1, la0_1, ka0_2, la0_2, ka0_3, la0_3]
  obtain ⟨c_1, h⟩ := gw_ife h
  refine ⟨c_1, ?_⟩
  obtain ⟨μ_2, hμ_2, h⟩ := gw_lt h
  try rw [← hμ_2]
  obtain ⟨c_3, h⟩ := gw_ife h
  refine ⟨c_3, ?_⟩
  obtain ⟨μ_4, hμ_4, h⟩ := gw_lt h
  try rw [← hμ_4]
  obtain ⟨c_5, h⟩ := gw_ife h
  refine ⟨c_5, ?_⟩
  obtain ⟨μ_6, hμ_6, h⟩ := gw_lt h
  try rw [← hμ_6]
  obtain ⟨μ_7, hμ_7, h⟩ := gw_lt h
  try rw [← hμ_7]
  cases h
  exact ⟨Nat.le_refl _, Nat.le_refl _, hq⟩
def F_X10_isPage (n0 : Nat) (v0 : Int32) (μ : gw_M) : Option (Int32 × gw_M) := (F_X10_within n0 v0 0 15 μ).bind (fun (z_4 : Int32 × gw_M) => some (z_4.1, z_4.2))
theorem ok_X10_isPage {l : Launch} {x : gw_C} {d : Nat} {S : gw_S} {Q : Option Value → gw_S → gw_M → Prop} {v0 : Int32} {n0 : Nat} {μ : gw_M} {r μ'} (h : F_X10_isPage n0 v0 μ = some (r, μ')) (hq : ((r = 0 ∨ r = 1) → Q (some (.int r)) S μ')) : gw_ok l x (d + 2) sgX10_isPage 0 0 [.int v0] S μ Q := by
  refine gw_ok_of stX10_isPage (lv0 := [.int v0]) (Nat.le_of_ble_eq_true rfl) rfl rfl ?_
  intro K hK
  unfold F_X10_isPage at h
  refine hK _ _ _ _ _ _ _ ?_
  rw [fdX10_isPage_0]
  simp only [gt_nil, true_and, eq_self, gt_iload_n, gt_ink, gw_nth, gt_iconst, gt_bipush, gt_s1_0, gt_s2_0, gt_s3_0, gt_s4_0, gt_s1_1, gt_s2_1, gt_s3_1, gt_s4_1, gt_acpy, gt_iret, gt_retz, bkX10_isPage_0]
  obtain ⟨⟨r_1, μ_2⟩, e_3, h⟩ := gw_bnd h
  refine ⟨rfl, 0, 0, Nat.le_refl _, Nat.le_refl _, ok_X10_within e_3 ?_⟩
  intro hbr_1
  dsimp only at h
  simp only [gt_nil, true_and, eq_self, gt_iret, gt_retz, Option.toList, List.cons_append, List.nil_append, Nat.add_zero]
  cases h
  exact ⟨hbr_1, Nat.le_refl _, Nat.le_refl _, hq hbr_1⟩
def F_X10_isEvent (n0 : Nat) (v0 : Int32) (μ : gw_M) : Option (Int32 × gw_M) := (F_X10_within n0 v0 0 7 μ).bind (fun (z_4 : Int32 × gw_M) => some (z_4.1, z_4.2))
theorem ok_X10_isEvent {l : Launch} {x : gw_C} {d : Nat} {S : gw_S} {Q : Option Value → gw_S → gw_M → Prop} {v0 : Int32} {n0 : Nat} {μ : gw_M} {r μ'} (h : F_X10_isEvent n0 v0 μ = some (r, μ')) (hq : ((r = 0 ∨ r = 1) → Q (some (.int r)) S μ')) : gw_ok l x (d + 2) sgX10_isEvent 0 0 [.int v0] S μ Q := by
  refine gw_ok_of stX10_isEvent (lv0 := [.int v0]) (Nat.le_of_ble_eq_true rfl) rfl rfl ?_
  intro K hK
  unfold F_X10_isEvent at h
  refine hK _ _ _ _ _ _ _ ?_
  rw [fdX10_isEvent_0]
  simp only [gt_nil, true_and, eq_self, gt_iload_n, gt_ink, gw_nth, gt_iconst, gt_bipush, gt_s1_0, gt_s2_0, gt_s3_0, gt_s4_0, gt_s1_1, gt_s2_1, gt_s3_1, gt_s4_1, gt_acpy, gt_iret, gt_retz, bkX10_isEvent_0]
  obtain ⟨⟨r_1, μ_2⟩, e_3, h⟩ := gw_bnd h
  refine ⟨rfl, 0, 0, Nat.le_refl _, Nat.le_refl _, ok_X10_within e_3 ?_⟩
  intro hbr_1
  dsimp only at h
  simp only [gt_nil, true_and, eq_self, gt_iret, gt_retz, Option.toList, List.cons_append, List.nil_append, Nat.add_zero]
  cases h
  exact ⟨hbr_1, Nat.le_refl _, Nat.le_refl _, hq hbr_1⟩
def F_X10_isVector (n0 : Nat) (v0 : Int32) (μ : gw_M) : Option (Int32 × gw_M) := (F_X10_within n0 v0 0 15 μ).bind (fun (z_4 : Int32 × gw_M) => some (z_4.1, z_4.2))
theorem ok_X10_isVector {l : Launch} {x : gw_C} {d : Nat} {S : gw_S} {Q : Option Value → gw_S → gw_M → Prop} {v0 : Int32} {n0 : Nat} {μ : gw_M} {r μ'} (h : F_X10_isVector n0 v0 μ = some (r, μ')) (hq : ((r = 0 ∨ r = 1) → Q (some (.int r)) S μ')) : gw_ok l x (d + 2) sgX10_isVector 0 0 [.int v0] S μ Q := by
  refine gw_ok_of stX10_isVector (lv0 := [.int v0]) (Nat.le_of_ble_eq_true rfl) rfl rfl ?_
  intro K hK
  unfold F_X10_isVector at h
  refine hK _ _ _ _ _ _ _ ?_
  rw [fdX10_isVector_0]
  simp only [gt_nil, true_and, eq_self, gt_iload_n, gt_ink, gw_nth, gt_iconst, gt_bipush, gt_s1_0, gt_s2_0, gt_s3_0, gt_s4_0, gt_s1_1, gt_s2_1, gt_s3_1, gt_s4_1, gt_acpy, gt_iret, gt_retz, bkX10_isVector_0]
  obtain ⟨⟨r_1, μ_2⟩, e_3, h⟩ := gw_bnd h
  refine ⟨rfl, 0, 0, Nat.le_refl _, Nat.le_refl _, ok_X10_within e_3 ?_⟩
  intro hbr_1
  dsimp only at h
  simp only [gt_nil, true_and, eq_self, gt_iret, gt_retz, Option.toList, List.cons_append, List.nil_append, Nat.add_zero]
  cases h
  exact ⟨hbr_1, Nat.le_refl _, Nat.le_refl _, hq hbr_1⟩
def F_X10_isGuest_10 (n0 : Nat) (μ : gw_M) : Option (Int32 × gw_M) := some (1, μ)
def F_X10_isGuest (n0 : Nat) (v0 : Int32) (μ : gw_M) : Option (Int32 × gw_M) := (if v0 = 1 then F_X10_isGuest_10 n0 μ else (if ¬ v0 = 2 then some (0, μ) else F_X10_isGuest_10 n0 μ))
theorem B_X10_isGuest_10 {l : Launch} {x : gw_C} {d : Nat} {S : gw_S} {Q : Option Value → gw_S → gw_M → Prop} {K : Nat → gw_Kt} (hK : gw_cl l x (d + 0) bsX10_isGuest Q K) {n0 : Nat}  {u0 : Value} {μ : gw_M} {r μ'} (h : F_X10_isGuest_10 n0 μ = some (r, μ')) (hq : ((r = 0 ∨ r = 1) → Q (some (.int r)) S μ')) : K 10 [u0] [] S μ 0 0 := by
  unfold F_X10_isGuest_10 at h
  refine hK _ _ _ _ _ _ _ ?_
  rw [fdX10_isGuest_10]
  simp only [gt_nil, true_and, eq_self, gt_iconst, gt_goto, bkX10_isGuest_10]
  refine hK _ _ _ _ _ _ _ ?_
  rw [fdX10_isGuest_15]
  simp only [gt_nil, true_and, eq_self, gt_iret, gt_retz, bkX10_isGuest_15]
  cases h
  exact ⟨(Or.inr rfl), Nat.le_refl _, Nat.le_refl _, hq (Or.inr rfl)⟩
theorem ok_X10_isGuest {l : Launch} {x : gw_C} {d : Nat} {S : gw_S} {Q : Option Value → gw_S → gw_M → Prop} {v0 : Int32} {n0 : Nat} {μ : gw_M} {r μ'} (h : F_X10_isGuest n0 v0 μ = some (r, μ')) (hq : ((r = 0 ∨ r = 1) → Q (some (.int r)) S μ')) : gw_ok l x (d + 1) sgX10_isGuest 0 0 [.int v0] S μ Q := by
  refine gw_ok_of stX10_isGuest (lv0 := [.int v0]) (Nat.le_of_ble_eq_true rfl) rfl rfl ?_
  intro K hK
  unfold F_X10_isGuest at h
  refine hK _ _ _ _ _ _ _ ?_
  rw [fdX10_isGuest_0]
  simp only [gt_nil, true_and, eq_self, gt_iload_n, gt_ink, gw_nth, gt_iconst, gt_icmp, bkX10_isGuest_0]
  refine ⟨fun c_1 => ?_, fun c_1 => ?_⟩
  · replace h := gw_ifp h c_1
    exact B_X10_isGuest_10 hK h hq
  · replace h := gw_ifn h c_1
    refine ⟨fun c_2 => ?_, fun c_2 => ?_⟩
    · replace h := gw_ifp h c_2
      refine hK _ _ _ _ _ _ _ ?_
      rw [fdX10_isGuest_14]
      simp only [gt_nil, true_and, eq_self, gt_iconst, bkX10_isGuest_14]
      refine hK _ _ _ _ _ _ _ ?_
      rw [fdX10_isGuest_15]
      simp only [gt_nil, true_and, eq_self, gt_iret, gt_retz, bkX10_isGuest_15]
      cases h
      exact ⟨(Or.inl rfl), Nat.le_refl _, Nat.le_refl _, hq (Or.inl rfl)⟩
    · replace h := gw_ifn h c_2
      exact B_X10_isGuest_10 hK h hq
def F_X10_isInnerGuest (n0 : Nat) (v0 : Int32) (μ : gw_M) : Option (Int32 × gw_M) := (F_X10_within n0 v0 0 2 μ).bind (fun (z_4 : Int32 × gw_M) => some (z_4.1, z_4.2))
theorem ok_X10_isInnerGuest {l : Launch} {x : gw_C} {d : Nat} {S : gw_S} {Q : Option Value → gw_S → gw_M → Prop} {v0 : Int32} {n0 : Nat} {μ : gw_M} {r μ'} (h : F_X10_isInnerGuest n0 v0 μ = some (r, μ')) (hq : ((r = 0 ∨ r = 1) → Q (some (.int r)) S μ')) : gw_ok l x (d + 2) sgX10_isInnerGuest 0 0 [.int v0] S μ Q := by
  refine gw_ok_of stX10_isInnerGuest (lv0 := [.int v0]) (Nat.le_of_ble_eq_true rfl) rfl rfl ?_
  intro K hK
  unfold F_X10_isInnerGuest at h
  refine hK _ _ _ _ _ _ _ ?_
  rw [fdX10_isInnerGuest_0]
  simp only [gt_nil, true_and, eq_self, gt_iload_n, gt_ink, gw_nth, gt_iconst, gt_s1_0, gt_s2_0, gt_s3_0, gt_s4_0, gt_s1_1, gt_s2_1, gt_s3_1, gt_s4_1, gt_acpy, gt_iret, gt_retz, bkX10_isInnerGuest_0]
  obtain ⟨⟨r_1, μ_2⟩, e_3, h⟩ := gw_bnd h
  refine ⟨rfl, 0, 0, Nat.le_refl _, Nat.le_refl _, ok_X10_within e_3 ?_⟩
  intro hbr_1
  dsimp only at h
  simp only [gt_nil, true_and, eq_self, gt_iret, gt_retz, Option.toList, List.cons_append, List.nil_append, Nat.add_zero]
  cases h
  exact ⟨hbr_1, Nat.le_refl _, Nat.le_refl _, hq hbr_1⟩
def F_X10_mayHaveHandler_22 (n0 : Nat) (μ : gw_M) : Option (Int32 × gw_M) := some (1, μ)
def F_X10_mayHaveHandler (n0 : Nat) (v0 : Int32) (μ : gw_M) : Option (Int32 × gw_M) := (if v0 = 1 then F_X10_mayHaveHandler_22 n0 μ else (if v0 = 4 then F_X10_mayHaveHandler_22 n0 μ else (if v0 = 6 then F_X10_mayHaveHandler_22 n0 μ else (if ¬ v0 = 8 then some (0, μ) else F_X10_mayHaveHandler_22 n0 μ))))
theorem B_X10_mayHaveHandler_22 {l : Launch} {x : gw_C} {d : Nat} {S : gw_S} {Q : Option Value → gw_S → gw_M → Prop} {K : Nat → gw_Kt} (hK : gw_cl l x (d + 0) bsX10_mayHaveHandler Q K) {n0 : Nat}  {u0 : Value} {μ : gw_M} {r μ'} (h : F_X10_mayHaveHandler_22 n0 μ = some (r, μ')) (hq : ((r = 0 ∨ r = 1) → Q (some (.int r)) S μ')) : K 22 [u0] [] S μ 0 0 := by
  unfold F_X10_mayHaveHandler_22 at h
  refine hK _ _ _ _ _ _ _ ?_
  rw [fdX10_mayHaveHandler_22]
  simp only [gt_nil, true_and, eq_self, gt_iconst, gt_goto, bkX10_mayHaveHandler_22]
  refine hK _ _ _ _ _ _ _ ?_
  rw [fdX10_mayHaveHandler_27]
  simp only [gt_nil, true_and, eq_self, gt_iret, gt_retz, bkX10_mayHaveHandler_27]
  cases h
  exact ⟨(Or.inr rfl), Nat.le_refl _, Nat.le_refl _, hq (Or.inr rfl)⟩
theorem ok_X10_mayHaveHandler {l : Launch} {x : gw_C} {d : Nat} {S : gw_S} {Q : Option Value → gw_S → gw_M → Prop} {v0 : Int32} {n0 : Nat} {μ : gw_M} {r μ'} (h : F_X10_mayHaveHandler n0 v0 μ = some (r, μ')) (hq : ((r = 0 ∨ r = 1) → Q (some (.int r)) S μ')) : gw_ok l x (d + 1) sgX10_mayHaveHandler 0 0 [.int v0] S μ Q := by
  refine gw_ok_of stX10_mayHaveHandler (lv0 := [.int v0]) (Nat.le_of_ble_eq_true rfl) rfl rfl ?_
  intro K hK
  unfold F_X10_mayHaveHandler at h
  refine hK _ _ _ _ _ _ _ ?_
  rw [fdX10_mayHaveHandler_0]
  simp only [gt_nil, true_and, eq_self, gt_iload_n, gt_ink, gw_nth, gt_iconst, gt_icmp, gt_bipush, bkX10_mayHaveHandler_0]
  refine ⟨fun c_1 => ?_, fun c_1 => ?_⟩
  · replace h := gw_ifp h c_1
    exact B_X10_mayHaveHandler_22 hK h hq
  · replace h := gw_ifn h c_1
    refine ⟨fun c_2 => ?_, fun c_2 => ?_⟩
    · replace h := gw_ifp h c_2
      exact B_X10_mayHaveHandler_22 hK h hq
    · replace h := gw_ifn h c_2
      refine ⟨fun c_3 => ?_, fun c_3 => ?_⟩
      · replace h := gw_ifp h c_3
        exact B_X10_mayHaveHandler_22 hK h hq
      · replace h := gw_ifn h c_3
        refine ⟨fun c_4 => ?_, fun c_4 => ?_⟩
        · replace h := gw_ifp h c_4
          refine hK _ _ _ _ _ _ _ ?_
          rw [fdX10_mayHaveHandler_26]
          simp only [gt_nil, true_and, eq_self, gt_iconst, bkX10_mayHaveHandler_26]
          refine hK _ _ _ _ _ _ _ ?_
          rw [fdX10_mayHaveHandler_27]
          simp only [gt_nil, true_and, eq_self, gt_iret, gt_retz, bkX10_mayHaveHandler_27]
          cases h
          exact ⟨(Or.inl rfl), Nat.le_refl _, Nat.le_refl _, hq (Or.inl rfl)⟩
        · replace h := gw_ifn h c_4
          exact B_X10_mayHaveHandler_22 hK h hq
def F_X10_mayGo_28 (n0 : Nat) (a0 : Nat) (μ : gw_M) : Option (Int32 × gw_M) := some (0, μ)
def F_X10_mayGo (n0 : Nat) (a0 : Nat) (v1 : Int32) (v2 : Int32) (μ : gw_M) : Option (Int32 × gw_M) := (F_X10_within n0 v1 1 v2 μ).bind (fun (z_4 : Int32 × gw_M) => (if z_4.1 = 0 then F_X10_mayGo_28 n0 a0 z_4.2 else (if 99999 < ((z_4.2 (a0 + 1) 7) + v1) then F_X10_mayGo_28 n0 a0 z_4.2 else some (1, z_4.2))))
theorem B_X10_mayGo_28 {l : Launch} {x : gw_C} {d : Nat} {S : gw_S} {Q : Option Value → gw_S → gw_M → Prop} {K : Nat → gw_Kt} (hK : gw_cl l x (d + 1) bsX10_mayGo Q K) {a0 : Nat} (hS0 : gw_sh S 10 a0) {n0 : Nat}  {u1 u2 : Value} {μ : gw_M} {r μ'} (h : F_X10_mayGo_28 n0 a0 μ = some (r, μ')) (hq : ((r = 0 ∨ r = 1) → Q (some (.int r)) S μ')) : K 28 [.ref a0, u1, u2] [] S μ 0 0 := by
  unfold F_X10_mayGo_28 at h
  refine hK _ _ _ _ _ _ _ ?_
  rw [fdX10_mayGo_28]
  simp only [gt_nil, true_and, eq_self, gt_iconst, bkX10_mayGo_28]
  refine hK _ _ _ _ _ _ _ ?_
  rw [fdX10_mayGo_29]
  simp only [gt_nil, true_and, eq_self, gt_iret, gt_retz, bkX10_mayGo_29]
  cases h
  exact ⟨(Or.inl rfl), Nat.le_refl _, Nat.le_refl _, hq (Or.inl rfl)⟩
theorem ok_X10_mayGo {l : Launch} {x : gw_C} {d : Nat} {S : gw_S} {Q : Option Value → gw_S → gw_M → Prop} {v1 v2 : Int32} {a0 : Nat} {n0 : Nat} {μ : gw_M} {r μ'} (hS0 : gw_sh S 10 a0) (h : F_X10_mayGo n0 a0 v1 v2 μ = some (r, μ')) (hq : ((r = 0 ∨ r = 1) → Q (some (.int r)) S μ')) : gw_ok l x (d + 2) sgX10_mayGo 0 0 [.ref a0, .int v1, .int v2] S μ Q := by
  refine gw_ok_of stX10_mayGo (lv0 := [.ref a0, .int v1, .int v2]) (Nat.le_of_ble_eq_true rfl) rfl rfl ?_
  intro K hK
  have ka0_0 : gw_kd S a0 = 10 := (hS0 0 _ rfl).1
  have ra0_0_0 : gw_rf S a0 0 = a0 + 1 := (hS0 0 _ rfl).2.2 (0, 1) (by decide)
  have ka0_1 : gw_kd S (a0 + 1) = 3 := (hS0 1 _ rfl).1
  unfold F_X10_mayGo at h
  refine hK _ _ _ _ _ _ _ ?_
  rw [fdX10_mayGo_0]
  simp only [gt_nil, true_and, eq_self, gt_iload_n, gt_ink, gw_nth, gt_iconst, gt_s1_0, gt_s2_0, gt_s3_0, gt_s4_0, gt_s1_1, gt_s2_1, gt_s3_1, gt_s4_1, gt_acpy, gt_if, gt_aload_n, gt_rfk, gt_get_r, gt_get_i, gt_get_z, gt_iadd, gt_ldc_w, gt_icmp, gt_goto, bkX10_mayGo_0, ka0_0, ra0_0_0, ka0_1]
  obtain ⟨⟨r_1, μ_2⟩, e_3, h⟩ := gw_bnd h
  refine ⟨rfl, 0, 0, Nat.le_refl _, Nat.le_refl _, ok_X10_within e_3 ?_⟩
  intro hbr_1
  dsimp only at h
  simp only [gt_nil, true_and, eq_self, gt_if, gt_aload_n, gt_rfk, gw_nth, gt_get_r, gt_get_i, gt_get_z, gt_iload_n, gt_ink, gt_iadd, gt_ldc_w, gt_icmp, gt_iconst, gt_goto, Option.toList, List.cons_append, List.nil_append, Nat.add_zero, ka0_0, ra0_0_0, ka0_1]
  refine ⟨fun c_5 => ?_, fun c_5 => ?_⟩
  · replace h := gw_ifp h c_5
    exact B_X10_mayGo_28 hK hS0 h hq
  · replace h := gw_ifn h c_5
    refine ⟨fun c_6 => ?_, fun c_6 => ?_⟩
    · replace h := gw_ifp h c_6
      exact B_X10_mayGo_28 hK hS0 h hq
    · replace h := gw_ifn h c_6
      refine hK _ _ _ _ _ _ _ ?_
      rw [fdX10_mayGo_29]
      simp only [gt_nil, true_and, eq_self, gt_iret, gt_retz, bkX10_mayGo_29, ka0_0, ra0_0_0, ka0_1]
      cases h
      exact ⟨(Or.inr rfl), Nat.le_refl _, Nat.le_refl _, hq (Or.inr rfl)⟩
def F_X10_mostOfA_84 (n0 : Nat) (v0 : Int32) (μ : gw_M) : Option (Int32 × gw_M) := (if ¬ v0 = 1 then some (0, μ) else some (15, μ))
def F_X10_mostOfA (n0 : Nat) (v0 : Int32) (v1 : Int32) (μ : gw_M) : Option (Int32 × gw_M) := (if v1 = (0 : Int32) then some (15, μ) else (if v1 = ((0 : Int32) + 1) then some (15, μ) else (if v1 = (((0 : Int32) + 1) + 1) then some (15, μ) else (if v1 = ((((0 : Int32) + 1) + 1) + 1) then some (7, μ) else (if v1 = (((((0 : Int32) + 1) + 1) + 1) + 1) then some (0, μ) else (if v1 = ((((((0 : Int32) + 1) + 1) + 1) + 1) + 1) then some (0, μ) else (if v1 = (((((((0 : Int32) + 1) + 1) + 1) + 1) + 1) + 1) then (if ¬ v0 = 2 then some (0, μ) else some (15, μ)) else (if v1 = ((((((((0 : Int32) + 1) + 1) + 1) + 1) + 1) + 1) + 1) then F_X10_mostOfA_84 n0 v0 μ else (if v1 = (((((((((0 : Int32) + 1) + 1) + 1) + 1) + 1) + 1) + 1) + 1) then some (15, μ) else (if v1 = ((((((((((0 : Int32) + 1) + 1) + 1) + 1) + 1) + 1) + 1) + 1) + 1) then F_X10_mostOfA_84 n0 v0 μ else (if v1 = (((((((((((0 : Int32) + 1) + 1) + 1) + 1) + 1) + 1) + 1) + 1) + 1) + 1) then (if ¬ v0 = 1 then some ((-1), μ) else some (0, μ)) else (if v1 = ((((((((((((0 : Int32) + 1) + 1) + 1) + 1) + 1) + 1) + 1) + 1) + 1) + 1) + 1) then (if ¬ v0 = 1 then some ((-1), μ) else some (2, μ)) else some ((-1), μ)))))))))))))
theorem B_X10_mostOfA_84 {l : Launch} {x : gw_C} {d : Nat} {S : gw_S} {Q : Option Value → gw_S → gw_M → Prop} {K : Nat → gw_Kt} (hK : gw_cl l x (d + 0) bsX10_mostOfA Q K) {n0 : Nat} {v0} {u1 : Value} {μ : gw_M} {r μ'} (h : F_X10_mostOfA_84 n0 v0 μ = some (r, μ')) (hq : Q (some (.int r)) S μ') : K 84 [.int v0, u1] [] S μ 0 0 := by
  unfold F_X10_mostOfA_84 at h
  refine hK _ _ _ _ _ _ _ ?_
  rw [fdX10_mostOfA_84]
  simp only [gt_nil, true_and, eq_self, gt_iload_n, gt_ink, gw_nth, gt_iconst, gt_icmp, gt_bipush, gt_goto, bkX10_mostOfA_84]
  refine ⟨fun c_1 => ?_, fun c_1 => ?_⟩
  · replace h := gw_ifp h c_1
    refine hK _ _ _ _ _ _ _ ?_
    rw [fdX10_mostOfA_94]
    simp only [gt_nil, true_and, eq_self, gt_iconst, bkX10_mostOfA_94]
    refine hK _ _ _ _ _ _ _ ?_
    rw [fdX10_mostOfA_95]
    simp only [gt_nil, true_and, eq_self, gt_iret, gt_retz, bkX10_mostOfA_95]
    cases h
    exact ⟨Nat.le_refl _, Nat.le_refl _, hq⟩
  · replace h := gw_ifn h c_1
    refine hK _ _ _ _ _ _ _ ?_
    rw [fdX10_mostOfA_95]
    simp only [gt_nil, true_and, eq_self, gt_iret, gt_retz, bkX10_mostOfA_95]
    cases h
    exact ⟨Nat.le_refl _, Nat.le_refl _, hq⟩
theorem ok_X10_mostOfA {l : Launch} {x : gw_C} {d : Nat} {S : gw_S} {Q : Option Value → gw_S → gw_M → Prop} {v0 v1 : Int32} {n0 : Nat} {μ : gw_M} {r μ'} (h : F_X10_mostOfA n0 v0 v1 μ = some (r, μ')) (hq : Q (some (.int r)) S μ') : gw_ok l x (d + 1) sgX10_mostOfA 0 0 [.int v0, .int v1] S μ Q := by
  refine gw_ok_of stX10_mostOfA (lv0 := [.int v0, .int v1]) (Nat.le_of_ble_eq_true rfl) rfl rfl ?_
  intro K hK
  unfold F_X10_mostOfA at h
  refine hK _ _ _ _ _ _ _ ?_
  rw [fdX10_mostOfA_0]
  simp only [gt_nil, true_and, eq_self, gt_iload_n, gt_ink, gw_nth, gt_tsw, gw_sw, bkX10_mostOfA_0]
  refine ⟨fun c_1 => ?_, fun c_1 => ?_⟩
  · replace h := gw_ifp h c_1
    refine hK _ _ _ _ _ _ _ ?_
    rw [fdX10_mostOfA_64]
    simp only [gt_nil, true_and, eq_self, gt_bipush, gt_iret, gt_retz, bkX10_mostOfA_64]
    cases h
    exact ⟨Nat.le_refl _, Nat.le_refl _, hq⟩
  replace h := gw_ifn h c_1
  refine ⟨fun c_2 => ?_, fun c_2 => ?_⟩
  · replace h := gw_ifp h c_2
    refine hK _ _ _ _ _ _ _ ?_
    rw [fdX10_mostOfA_64]
    simp only [gt_nil, true_and, eq_self, gt_bipush, gt_iret, gt_retz, bkX10_mostOfA_64]
    cases h
    exact ⟨Nat.le_refl _, Nat.le_refl _, hq⟩
  replace h := gw_ifn h c_2
  refine ⟨fun c_3 => ?_, fun c_3 => ?_⟩
  · replace h := gw_ifp h c_3
    refine hK _ _ _ _ _ _ _ ?_
    rw [fdX10_mostOfA_64]
    simp only [gt_nil, true_and, eq_self, gt_bipush, gt_iret, gt_retz, bkX10_mostOfA_64]
    cases h
    exact ⟨Nat.le_refl _, Nat.le_refl _, hq⟩
  replace h := gw_ifn h c_3
  refine ⟨fun c_4 => ?_, fun c_4 => ?_⟩
  · replace h := gw_ifp h c_4
    refine hK _ _ _ _ _ _ _ ?_
    rw [fdX10_mostOfA_67]
    simp only [gt_nil, true_and, eq_self, gt_bipush, gt_iret, gt_retz, bkX10_mostOfA_67]
    cases h
    exact ⟨Nat.le_refl _, Nat.le_refl _, hq⟩
  replace h := gw_ifn h c_4
  refine ⟨fun c_5 => ?_, fun c_5 => ?_⟩
  · replace h := gw_ifp h c_5
    refine hK _ _ _ _ _ _ _ ?_
    rw [fdX10_mostOfA_70]
    simp only [gt_nil, true_and, eq_self, gt_iconst, gt_iret, gt_retz, bkX10_mostOfA_70]
    cases h
    exact ⟨Nat.le_refl _, Nat.le_refl _, hq⟩
  replace h := gw_ifn h c_5
  refine ⟨fun c_6 => ?_, fun c_6 => ?_⟩
  · replace h := gw_ifp h c_6
    refine hK _ _ _ _ _ _ _ ?_
    rw [fdX10_mostOfA_70]
    simp only [gt_nil, true_and, eq_self, gt_iconst, gt_iret, gt_retz, bkX10_mostOfA_70]
    cases h
    exact ⟨Nat.le_refl _, Nat.le_refl _, hq⟩
  replace h := gw_ifn h c_6
  refine ⟨fun c_7 => ?_, fun c_7 => ?_⟩
  · replace h := gw_ifp h c_7
    refine hK _ _ _ _ _ _ _ ?_
    rw [fdX10_mostOfA_72]
    simp only [gt_nil, true_and, eq_self, gt_iload_n, gt_ink, gw_nth, gt_iconst, gt_icmp, gt_bipush, gt_goto, bkX10_mostOfA_72]
    refine ⟨fun c_8 => ?_, fun c_8 => ?_⟩
    · replace h := gw_ifp h c_8
      refine hK _ _ _ _ _ _ _ ?_
      rw [fdX10_mostOfA_82]
      simp only [gt_nil, true_and, eq_self, gt_iconst, bkX10_mostOfA_82]
      refine hK _ _ _ _ _ _ _ ?_
      rw [fdX10_mostOfA_83]
      simp only [gt_nil, true_and, eq_self, gt_iret, gt_retz, bkX10_mostOfA_83]
      cases h
      exact ⟨Nat.le_refl _, Nat.le_refl _, hq⟩
    · replace h := gw_ifn h c_8
      refine hK _ _ _ _ _ _ _ ?_
      rw [fdX10_mostOfA_83]
      simp only [gt_nil, true_and, eq_self, gt_iret, gt_retz, bkX10_mostOfA_83]
      cases h
      exact ⟨Nat.le_refl _, Nat.le_refl _, hq⟩
  replace h := gw_ifn h c_7
  refine ⟨fun c_9 => ?_, fun c_9 => ?_⟩
  · replace h := gw_ifp h c_9
    exact B_X10_mostOfA_84 hK h hq
  replace h := gw_ifn h c_9
  refine ⟨fun c_10 => ?_, fun c_10 => ?_⟩
  · replace h := gw_ifp h c_10
    refine hK _ _ _ _ _ _ _ ?_
    rw [fdX10_mostOfA_64]
    simp only [gt_nil, true_and, eq_self, gt_bipush, gt_iret, gt_retz, bkX10_mostOfA_64]
    cases h
    exact ⟨Nat.le_refl _, Nat.le_refl _, hq⟩
  replace h := gw_ifn h c_10
  refine ⟨fun c_11 => ?_, fun c_11 => ?_⟩
  · replace h := gw_ifp h c_11
    exact B_X10_mostOfA_84 hK h hq
  replace h := gw_ifn h c_11
  refine ⟨fun c_12 => ?_, fun c_12 => ?_⟩
  · replace h := gw_ifp h c_12
    refine hK _ _ _ _ _ _ _ ?_
    rw [fdX10_mostOfA_96]
    simp only [gt_nil, true_and, eq_self, gt_iload_n, gt_ink, gw_nth, gt_iconst, gt_icmp, gt_goto, bkX10_mostOfA_96]
    refine ⟨fun c_13 => ?_, fun c_13 => ?_⟩
    · replace h := gw_ifp h c_13
      refine hK _ _ _ _ _ _ _ ?_
      rw [fdX10_mostOfA_105]
      simp only [gt_nil, true_and, eq_self, gt_iconst, bkX10_mostOfA_105]
      refine hK _ _ _ _ _ _ _ ?_
      rw [fdX10_mostOfA_106]
      simp only [gt_nil, true_and, eq_self, gt_iret, gt_retz, bkX10_mostOfA_106]
      cases h
      exact ⟨Nat.le_refl _, Nat.le_refl _, hq⟩
    · replace h := gw_ifn h c_13
      refine hK _ _ _ _ _ _ _ ?_
      rw [fdX10_mostOfA_106]
      simp only [gt_nil, true_and, eq_self, gt_iret, gt_retz, bkX10_mostOfA_106]
      cases h
      exact ⟨Nat.le_refl _, Nat.le_refl _, hq⟩
  replace h := gw_ifn h c_12
  refine ⟨fun c_14 => ?_, fun c_14 => ?_⟩
  · replace h := gw_ifp h c_14
    refine hK _ _ _ _ _ _ _ ?_
    rw [fdX10_mostOfA_107]
    simp only [gt_nil, true_and, eq_self, gt_iload_n, gt_ink, gw_nth, gt_iconst, gt_icmp, gt_goto, bkX10_mostOfA_107]
    refine ⟨fun c_15 => ?_, fun c_15 => ?_⟩
    · replace h := gw_ifp h c_15
      refine hK _ _ _ _ _ _ _ ?_
      rw [fdX10_mostOfA_116]
      simp only [gt_nil, true_and, eq_self, gt_iconst, bkX10_mostOfA_116]
      refine hK _ _ _ _ _ _ _ ?_
      rw [fdX10_mostOfA_117]
      simp only [gt_nil, true_and, eq_self, gt_iret, gt_retz, bkX10_mostOfA_117]
      cases h
      exact ⟨Nat.le_refl _, Nat.le_refl _, hq⟩
    · replace h := gw_ifn h c_15
      refine hK _ _ _ _ _ _ _ ?_
      rw [fdX10_mostOfA_117]
      simp only [gt_nil, true_and, eq_self, gt_iret, gt_retz, bkX10_mostOfA_117]
      cases h
      exact ⟨Nat.le_refl _, Nat.le_refl _, hq⟩
  replace h := gw_ifn h c_14
  refine hK _ _ _ _ _ _ _ ?_
  rw [fdX10_mostOfA_118]
  simp only [gt_nil, true_and, eq_self, gt_iconst, gt_iret, gt_retz, bkX10_mostOfA_118]
  cases h
  exact ⟨Nat.le_refl _, Nat.le_refl _, hq⟩
def F_X10_mostOfB_30 (n0 : Nat) (v1 : Int32) (s0 : Int32) (μ : gw_M) : Option (Int32 × gw_M) := (if ¬ v1 = 1 then (if s0 = 0 then some (0, μ) else some (15, μ)) else some (9999, μ))
def F_X10_mostOfB (n0 : Nat) (v0 : Int32) (v1 : Int32) (μ : gw_M) : Option (Int32 × gw_M) := (if ¬ v0 = 1 then (if ¬ v1 = 6 then F_X10_mostOfB_30 n0 v1 0 μ else F_X10_mostOfB_30 n0 v1 1 μ) else (if ¬ v1 = 7 then F_X10_mostOfB_30 n0 v1 0 μ else F_X10_mostOfB_30 n0 v1 1 μ))
theorem B_X10_mostOfB_30 {l : Launch} {x : gw_C} {d : Nat} {S : gw_S} {Q : Option Value → gw_S → gw_M → Prop} {K : Nat → gw_Kt} (hK : gw_cl l x (d + 0) bsX10_mostOfB Q K) {n0 : Nat} {v1 s0} {u0 u2 : Value} {μ : gw_M} {r μ'} (h : F_X10_mostOfB_30 n0 v1 s0 μ = some (r, μ')) (hq : Q (some (.int r)) S μ') : K 30 [u0, .int v1, u2] [.int s0] S μ 0 0 := by
  unfold F_X10_mostOfB_30 at h
  refine hK _ _ _ _ _ _ _ ?_
  rw [fdX10_mostOfB_30]
  simp only [gt_nil, true_and, eq_self, gt_istore_n, gw_set, gt_iload_n, gt_ink, gw_nth, gt_iconst, gt_icmp, gt_sipush, gt_iret, gt_retz, bkX10_mostOfB_30]
  refine ⟨fun c_1 => ?_, fun c_1 => ?_⟩
  · replace h := gw_ifp h c_1
    refine hK _ _ _ _ _ _ _ ?_
    rw [fdX10_mostOfB_40]
    simp only [gt_nil, true_and, eq_self, gt_iload_n, gt_ink, gw_nth, gt_if, gt_bipush, gt_goto, bkX10_mostOfB_40]
    refine ⟨fun c_2 => ?_, fun c_2 => ?_⟩
    · replace h := gw_ifp h c_2
      refine hK _ _ _ _ _ _ _ ?_
      rw [fdX10_mostOfB_49]
      simp only [gt_nil, true_and, eq_self, gt_iconst, bkX10_mostOfB_49]
      refine hK _ _ _ _ _ _ _ ?_
      rw [fdX10_mostOfB_50]
      simp only [gt_nil, true_and, eq_self, gt_iret, gt_retz, bkX10_mostOfB_50]
      cases h
      exact ⟨Nat.le_refl _, Nat.le_refl _, hq⟩
    · replace h := gw_ifn h c_2
      refine hK _ _ _ _ _ _ _ ?_
      rw [fdX10_mostOfB_50]
      simp only [gt_nil, true_and, eq_self, gt_iret, gt_retz, bkX10_mostOfB_50]
      cases h
      exact ⟨Nat.le_refl _, Nat.le_refl _, hq⟩
  · replace h := gw_ifn h c_1
    cases h
    exact ⟨Nat.le_refl _, Nat.le_refl _, hq⟩
theorem ok_X10_mostOfB {l : Launch} {x : gw_C} {d : Nat} {S : gw_S} {Q : Option Value → gw_S → gw_M → Prop} {v0 v1 : Int32} {n0 : Nat} {μ : gw_M} {r μ'} (h : F_X10_mostOfB n0 v0 v1 μ = some (r, μ')) (hq : Q (some (.int r)) S μ') : gw_ok l x (d + 1) sgX10_mostOfB 0 0 [.int v0, .int v1] S μ Q := by
  refine gw_ok_of stX10_mostOfB (lv0 := [.int v0, .int v1, .retAddr 0]) (Nat.le_of_ble_eq_true rfl) rfl rfl ?_
  intro K hK
  unfold F_X10_mostOfB at h
  refine hK _ _ _ _ _ _ _ ?_
  rw [fdX10_mostOfB_0]
  simp only [gt_nil, true_and, eq_self, gt_iload_n, gt_ink, gw_nth, gt_iconst, gt_icmp, gt_bipush, gt_goto, bkX10_mostOfB_0]
  refine ⟨fun c_1 => ?_, fun c_1 => ?_⟩
  · replace h := gw_ifp h c_1
    refine hK _ _ _ _ _ _ _ ?_
    rw [fdX10_mostOfB_19]
    simp only [gt_nil, true_and, eq_self, gt_iload_n, gt_ink, gw_nth, gt_bipush, gt_icmp, gt_iconst, gt_goto, bkX10_mostOfB_19]
    refine ⟨fun c_2 => ?_, fun c_2 => ?_⟩
    · replace h := gw_ifp h c_2
      refine hK _ _ _ _ _ _ _ ?_
      rw [fdX10_mostOfB_29]
      simp only [gt_nil, true_and, eq_self, gt_iconst, bkX10_mostOfB_29]
      exact B_X10_mostOfB_30 hK h hq
    · replace h := gw_ifn h c_2
      exact B_X10_mostOfB_30 hK h hq
  · replace h := gw_ifn h c_1
    refine ⟨fun c_3 => ?_, fun c_3 => ?_⟩
    · replace h := gw_ifp h c_3
      refine hK _ _ _ _ _ _ _ ?_
      rw [fdX10_mostOfB_15]
      simp only [gt_nil, true_and, eq_self, gt_iconst, gt_goto, bkX10_mostOfB_15]
      exact B_X10_mostOfB_30 hK h hq
    · replace h := gw_ifn h c_3
      exact B_X10_mostOfB_30 hK h hq
def F_X10_isAct_30 (n0 : Nat) (μ : gw_M) : Option (Int32 × gw_M) := some (0, μ)
def F_X10_isAct (n0 : Nat) (v0 : Int32) (v1 : Int32) (v2 : Int32) (v3 : Int32) (μ : gw_M) : Option (Int32 × gw_M) := (F_X10_mostOfA n0 v0 v1 μ).bind (fun (z_4 : Int32 × gw_M) => (F_X10_within n0 v2 0 z_4.1 z_4.2).bind (fun (z_8 : Int32 × gw_M) => (if z_8.1 = 0 then F_X10_isAct_30 n0 z_8.2 else (F_X10_mostOfB n0 v0 v1 z_8.2).bind (fun (z_13 : Int32 × gw_M) => (F_X10_within n0 v3 0 z_13.1 z_13.2).bind (fun (z_17 : Int32 × gw_M) => (if z_17.1 = 0 then F_X10_isAct_30 n0 z_17.2 else some (1, z_17.2)))))))
theorem B_X10_isAct_30 {l : Launch} {x : gw_C} {d : Nat} {S : gw_S} {Q : Option Value → gw_S → gw_M → Prop} {K : Nat → gw_Kt} (hK : gw_cl l x (d + 1) bsX10_isAct Q K) {n0 : Nat}  {u0 u1 u2 u3 : Value} {μ : gw_M} {r μ'} (h : F_X10_isAct_30 n0 μ = some (r, μ')) (hq : ((r = 0 ∨ r = 1) → Q (some (.int r)) S μ')) : K 30 [u0, u1, u2, u3] [] S μ 0 0 := by
  unfold F_X10_isAct_30 at h
  refine hK _ _ _ _ _ _ _ ?_
  rw [fdX10_isAct_30]
  simp only [gt_nil, true_and, eq_self, gt_iconst, bkX10_isAct_30]
  refine hK _ _ _ _ _ _ _ ?_
  rw [fdX10_isAct_31]
  simp only [gt_nil, true_and, eq_self, gt_iret, gt_retz, bkX10_isAct_31]
  cases h
  exact ⟨(Or.inl rfl), Nat.le_refl _, Nat.le_refl _, hq (Or.inl rfl)⟩
theorem ok_X10_isAct {l : Launch} {x : gw_C} {d : Nat} {S : gw_S} {Q : Option Value → gw_S → gw_M → Prop} {v0 v1 v2 v3 : Int32} {n0 : Nat} {μ : gw_M} {r μ'} (h : F_X10_isAct n0 v0 v1 v2 v3 μ = some (r, μ')) (hq : ((r = 0 ∨ r = 1) → Q (some (.int r)) S μ')) : gw_ok l x (d + 2) sgX10_isAct 0 0 [.int v0, .int v1, .int v2, .int v3] S μ Q := by
  refine gw_ok_of stX10_isAct (lv0 := [.int v0, .int v1, .int v2, .int v3]) (Nat.le_of_ble_eq_true rfl) rfl rfl ?_
  intro K hK
  unfold F_X10_isAct at h
  refine hK _ _ _ _ _ _ _ ?_
  rw [fdX10_isAct_0]
  simp only [gt_nil, true_and, eq_self, gt_iload_n, gt_ink, gw_nth, gt_iconst, gt_s1_0, gt_s2_0, gt_s3_0, gt_s4_0, gt_s1_1, gt_s2_1, gt_s3_1, gt_s4_1, gt_acpy, gt_if, gt_goto, bkX10_isAct_0]
  obtain ⟨⟨r_1, μ_2⟩, e_3, h⟩ := gw_bnd h
  refine ⟨rfl, 0, 0, Nat.le_refl _, Nat.le_refl _, ok_X10_mostOfA e_3 ?_⟩
  dsimp only at h
  simp only [gt_nil, true_and, eq_self, gt_s1_0, gt_s2_0, gt_s3_0, gt_s4_0, gt_s1_1, gt_s2_1, gt_s3_1, gt_s4_1, gt_acpy, gt_if, gt_iload_n, gt_ink, gw_nth, gt_iconst, gt_goto, Option.toList, List.cons_append, List.nil_append, Nat.add_zero]
  obtain ⟨⟨r_5, μ_6⟩, e_7, h⟩ := gw_bnd h
  refine ⟨rfl, 0, 0, Nat.le_refl _, Nat.le_refl _, ok_X10_within e_7 ?_⟩
  intro hbr_5
  dsimp only at h
  simp only [gt_nil, true_and, eq_self, gt_if, gt_iload_n, gt_ink, gw_nth, gt_iconst, gt_s1_0, gt_s2_0, gt_s3_0, gt_s4_0, gt_s1_1, gt_s2_1, gt_s3_1, gt_s4_1, gt_acpy, gt_goto, Option.toList, List.cons_append, List.nil_append, Nat.add_zero]
  refine ⟨fun c_9 => ?_, fun c_9 => ?_⟩
  · replace h := gw_ifp h c_9
    exact B_X10_isAct_30 hK h hq
  · replace h := gw_ifn h c_9
    obtain ⟨⟨r_10, μ_11⟩, e_12, h⟩ := gw_bnd h
    refine ⟨rfl, 0, 0, Nat.le_refl _, Nat.le_refl _, ok_X10_mostOfB e_12 ?_⟩
    dsimp only at h
    simp only [gt_nil, true_and, eq_self, gt_s1_0, gt_s2_0, gt_s3_0, gt_s4_0, gt_s1_1, gt_s2_1, gt_s3_1, gt_s4_1, gt_acpy, gt_if, gt_iconst, gt_goto, Option.toList, List.cons_append, List.nil_append, Nat.add_zero]
    obtain ⟨⟨r_14, μ_15⟩, e_16, h⟩ := gw_bnd h
    refine ⟨rfl, 0, 0, Nat.le_refl _, Nat.le_refl _, ok_X10_within e_16 ?_⟩
    intro hbr_14
    dsimp only at h
    simp only [gt_nil, true_and, eq_self, gt_if, gt_iconst, gt_goto, Option.toList, List.cons_append, List.nil_append, Nat.add_zero]
    refine ⟨fun c_18 => ?_, fun c_18 => ?_⟩
    · replace h := gw_ifp h c_18
      exact B_X10_isAct_30 hK h hq
    · replace h := gw_ifn h c_18
      refine hK _ _ _ _ _ _ _ ?_
      rw [fdX10_isAct_31]
      simp only [gt_nil, true_and, eq_self, gt_iret, gt_retz, bkX10_isAct_31]
      cases h
      exact ⟨(Or.inr rfl), Nat.le_refl _, Nat.le_refl _, hq (Or.inr rfl)⟩
def F_X10_is (n0 : Nat) (a0 : Nat) (v1 : Int32) (μ : gw_M) : Option (Int32 × gw_M) := (F_X3_figure n0 (a0 + 1) v1 μ).bind (fun (z_4 : Int32 × gw_M) => some (z_4.1, z_4.2))
theorem ok_X10_is {l : Launch} {x : gw_C} {d : Nat} {S : gw_S} {Q : Option Value → gw_S → gw_M → Prop} {v1 : Int32} {a0 : Nat} {n0 : Nat} {μ : gw_M} {r μ'} (hS0 : gw_sh S 10 a0) (h : F_X10_is n0 a0 v1 μ = some (r, μ')) (hq : Q (some (.int r)) S μ') : gw_ok l x (d + 4) sgX10_is 0 0 [.ref a0, .int v1] S μ Q := by
  refine gw_ok_of stX10_is (lv0 := [.ref a0, .int v1]) (Nat.le_of_ble_eq_true rfl) rfl rfl ?_
  intro K hK
  have ka0_0 : gw_kd S a0 = 10 := (hS0 0 _ rfl).1
  have ra0_0_0 : gw_rf S a0 0 = a0 + 1 := (hS0 0 _ rfl).2.2 (0, 1) (by decide)
  have ka0_1 : gw_kd S (a0 + 1) = 3 := (hS0 1 _ rfl).1
  unfold F_X10_is at h
  refine hK _ _ _ _ _ _ _ ?_
  rw [fdX10_is_0]
  simp only [gt_nil, true_and, eq_self, gt_aload_n, gt_rfk, gw_nth, gt_get_r, gt_get_i, gt_get_z, gt_iload_n, gt_ink, gt_v0, gt_v1, gt_v2, gt_v3, gt_v4, gt_v5, gt_iret, gt_retz, bkX10_is_0, ka0_0, ra0_0_0, ka0_1]
  obtain ⟨⟨r_1, μ_2⟩, e_3, h⟩ := gw_bnd h
  refine ⟨rfl, 0, 0, Nat.le_refl _, Nat.le_refl _, ok_X3_figure (gw_sub hS0 3 1 (by decide +kernel)) e_3 ?_⟩
  dsimp only at h
  simp only [gt_nil, true_and, eq_self, gt_iret, gt_retz, Option.toList, List.cons_append, List.nil_append, Nat.add_zero, ka0_0, ra0_0_0, ka0_1]
  cases h
  exact ⟨Nat.le_refl _, Nat.le_refl _, hq⟩
def F_X10_told (n0 : Nat) (a0 : Nat) (v1 : Int32) (v2 : Int32) (v3 : Int32) (μ : gw_M) : Option (Int32 × gw_M) := (F_X10_within n0 v1 0 3 μ).bind (fun (z_4 : Int32 × gw_M) => (if z_4.1 = 0 then some ((-1), z_4.2) else (F_X10_isPage n0 v2 z_4.2).bind (fun (z_9 : Int32 × gw_M) => (if z_9.1 = 0 then some ((-1), z_9.2) else (F_X10_within n0 v3 0 1 z_9.2).bind (fun (z_14 : Int32 × gw_M) => (if ¬ z_14.1 = 0 then (F_X3_table n0 (a0 + 1) v1 z_14.2).bind (fun (z_19 : Nat × gw_M) => (F_X8_has n0 z_19.1 v2 z_19.2).bind (fun (z_23 : Int32 × gw_M) => (if ¬ z_23.1 = 0 then (if ¬ v3 = 0 then (if 0 ≤ v2 ∧ v2.toNatClampNeg < 16 then some ((z_23.2 (z_19.1 + 2) v2.toNatClampNeg), z_23.2) else none) else (if 0 ≤ v2 ∧ v2.toNatClampNeg < 16 then some ((z_23.2 (z_19.1 + 1) v2.toNatClampNeg), z_23.2) else none)) else some ((-1), z_23.2)))) else some ((-1), z_14.2)))))))
theorem ok_X10_told {l : Launch} {x : gw_C} {d : Nat} {S : gw_S} {Q : Option Value → gw_S → gw_M → Prop} {v1 v2 v3 : Int32} {a0 : Nat} {n0 : Nat} {μ : gw_M} {r μ'} (hS0 : gw_sh S 10 a0) (h : F_X10_told n0 a0 v1 v2 v3 μ = some (r, μ')) (hq : Q (some (.int r)) S μ') : gw_ok l x (d + 3) sgX10_told 0 0 [.ref a0, .int v1, .int v2, .int v3] S μ Q := by
  refine gw_ok_of stX10_told (lv0 := [.ref a0, .int v1, .int v2, .int v3, .retAddr 0]) (Nat.le_of_ble_eq_true rfl) rfl rfl ?_
  intro K hK
  have ka0_0 : gw_kd S a0 = 10 := (hS0 0 _ rfl).1
  have ra0_0_0 : gw_rf S a0 0 = a0 + 1 := (hS0 0 _ rfl).2.2 (0, 1) (by decide)
  have ka0_1 : gw_kd S (a0 + 1) = 3 := (hS0 1 _ rfl).1
  unfold F_X10_told at h
  refine hK _ _ _ _ _ _ _ ?_
  rw [fdX10_told_0]
  simp only [gt_nil, true_and, eq_self, gt_iload_n, gt_ink, gw_nth, gt_iconst, gt_s1_0, gt_s2_0, gt_s3_0, gt_s4_0, gt_s1_1, gt_s2_1, gt_s3_1, gt_s4_1, gt_acpy, gt_if, bkX10_told_0, ka0_0, ra0_0_0, ka0_1]
  obtain ⟨⟨r_1, μ_2⟩, e_3, h⟩ := gw_bnd h
  refine ⟨rfl, 0, 0, Nat.le_refl _, Nat.le_refl _, ok_X10_within e_3 ?_⟩
  intro hbr_1
  dsimp only at h
  simp only [gt_nil, true_and, eq_self, gt_if, gt_iload_n, gt_ink, gw_nth, gt_s1_0, gt_s2_0, gt_s3_0, gt_s4_0, gt_s1_1, gt_s2_1, gt_s3_1, gt_s4_1, gt_acpy, gt_iconst, Option.toList, List.cons_append, List.nil_append, Nat.add_zero, ka0_0, ra0_0_0, ka0_1]
  refine ⟨fun c_5 => ?_, fun c_5 => ?_⟩
  · replace h := gw_ifp h c_5
    refine hK _ _ _ _ _ _ _ ?_
    rw [fdX10_told_25]
    simp only [gt_nil, true_and, eq_self, gt_iconst, gt_iret, gt_retz, bkX10_told_25, ka0_0, ra0_0_0, ka0_1]
    cases h
    exact ⟨Nat.le_refl _, Nat.le_refl _, hq⟩
  · replace h := gw_ifn h c_5
    obtain ⟨⟨r_6, μ_7⟩, e_8, h⟩ := gw_bnd h
    refine ⟨rfl, 0, 0, Nat.le_refl _, Nat.le_refl _, ok_X10_isPage e_8 ?_⟩
    intro hbr_6
    dsimp only at h
    simp only [gt_nil, true_and, eq_self, gt_if, gt_iload_n, gt_ink, gw_nth, gt_iconst, gt_s1_0, gt_s2_0, gt_s3_0, gt_s4_0, gt_s1_1, gt_s2_1, gt_s3_1, gt_s4_1, gt_acpy, Option.toList, List.cons_append, List.nil_append, Nat.add_zero, ka0_0, ra0_0_0, ka0_1]
    refine ⟨fun c_10 => ?_, fun c_10 => ?_⟩
    · replace h := gw_ifp h c_10
      refine hK _ _ _ _ _ _ _ ?_
      rw [fdX10_told_25]
      simp only [gt_nil, true_and, eq_self, gt_iconst, gt_iret, gt_retz, bkX10_told_25, ka0_0, ra0_0_0, ka0_1]
      cases h
      exact ⟨Nat.le_refl _, Nat.le_refl _, hq⟩
    · replace h := gw_ifn h c_10
      obtain ⟨⟨r_11, μ_12⟩, e_13, h⟩ := gw_bnd h
      refine ⟨rfl, 0, 0, Nat.le_refl _, Nat.le_refl _, ok_X10_within e_13 ?_⟩
      intro hbr_11
      dsimp only at h
      simp only [gt_nil, true_and, eq_self, gt_if, Option.toList, List.cons_append, List.nil_append, Nat.add_zero, ka0_0, ra0_0_0, ka0_1]
      refine ⟨fun c_15 => ?_, fun c_15 => ?_⟩
      · replace h := gw_ifp h c_15
        refine hK _ _ _ _ _ _ _ ?_
        rw [fdX10_told_27]
        simp only [gt_nil, true_and, eq_self, gt_aload_n, gt_rfk, gw_nth, gt_get_r, gt_get_i, gt_get_z, gt_iload_n, gt_ink, gt_v0, gt_v1, gt_v2, gt_v3, gt_v4, gt_v5, gt_astore, gw_set, gt_aload, gt_if, gt_iconst, gt_iret, gt_retz, bkX10_told_27, ka0_0, ra0_0_0, ka0_1]
        obtain ⟨⟨r_16, μ_17⟩, e_18, h⟩ := gw_bnd h
        refine ⟨rfl, 0, 0, Nat.le_refl _, Nat.le_refl _, ok_X3_table (gw_sub hS0 3 1 (by decide +kernel)) e_18 ?_⟩
        intro hsr_16
        have kr_16_0 : gw_kd S r_16 = 8 := (hsr_16 0 _ rfl).1
        have rr_16_0_0 : gw_rf S r_16 0 = r_16 + 1 := (hsr_16 0 _ rfl).2.2 (0, 1) (by decide)
        have rr_16_0_1 : gw_rf S r_16 1 = r_16 + 2 := (hsr_16 0 _ rfl).2.2 (1, 2) (by decide)
        have kr_16_1 : gw_kd S (r_16 + 1) = 12 := (hsr_16 1 _ rfl).1
        have lr_16_1 : gw_ln S (r_16 + 1) = 16 := (hsr_16 1 _ rfl).2.1
        have kr_16_2 : gw_kd S (r_16 + 2) = 12 := (hsr_16 2 _ rfl).1
        have lr_16_2 : gw_ln S (r_16 + 2) = 16 := (hsr_16 2 _ rfl).2.1
        dsimp only at h
        simp only [gt_nil, true_and, eq_self, gt_astore, gw_set, gt_aload, gt_rfk, gw_nth, gt_iload_n, gt_ink, gt_v0, gt_v1, gt_v2, gt_v3, gt_v4, gt_v5, gt_if, gt_iconst, gt_iret, gt_retz, Option.toList, List.cons_append, List.nil_append, Nat.add_zero, ka0_0, ra0_0_0, ka0_1, kr_16_0, rr_16_0_0, rr_16_0_1, kr_16_1, lr_16_1, kr_16_2, lr_16_2]
        obtain ⟨⟨r_20, μ_21⟩, e_22, h⟩ := gw_bnd h
        refine ⟨rfl, 0, 0, Nat.le_refl _, Nat.le_refl _, ok_X8_has hsr_16 e_22 ?_⟩
        intro hbr_20
        dsimp only at h
        simp only [gt_nil, true_and, eq_self, gt_if, gt_iconst, gt_iret, gt_retz, Option.toList, List.cons_append, List.nil_append, Nat.add_zero, ka0_0, ra0_0_0, ka0_1, kr_16_0, rr_16_0_0, rr_16_0_1, kr_16_1, lr_16_1, kr_16_2, lr_16_2]
        refine ⟨fun c_24 => ?_, fun c_24 => ?_⟩
        · replace h := gw_ifp h c_24
          refine hK _ _ _ _ _ _ _ ?_
          rw [fdX10_told_48]
          simp only [gt_nil, true_and, eq_self, gt_iload_n, gt_ink, gw_nth, gt_if, gt_aload, gt_rfk, gt_get_r, gt_get_i, gt_get_z, gt_iaload, gt_goto, bkX10_told_48, ka0_0, ra0_0_0, ka0_1, kr_16_0, rr_16_0_0, rr_16_0_1, kr_16_1, lr_16_1, kr_16_2, lr_16_2]
          refine ⟨fun c_25 => ?_, fun c_25 => ?_⟩
          · replace h := gw_ifp h c_25
            refine hK _ _ _ _ _ _ _ ?_
            rw [fdX10_told_62]
            simp only [gt_nil, true_and, eq_self, gt_aload, gt_rfk, gw_nth, gt_get_r, gt_get_i, gt_get_z, gt_iload_n, gt_ink, gt_iaload, bkX10_told_62, ka0_0, ra0_0_0, ka0_1, kr_16_0, rr_16_0_0, rr_16_0_1, kr_16_1, lr_16_1, kr_16_2, lr_16_2]
            obtain ⟨c_26, h⟩ := gw_ife h
            refine ⟨c_26, ?_⟩
            refine hK _ _ _ _ _ _ _ ?_
            rw [fdX10_told_69]
            simp only [gt_nil, true_and, eq_self, gt_iret, gt_retz, bkX10_told_69, ka0_0, ra0_0_0, ka0_1, kr_16_0, rr_16_0_0, rr_16_0_1, kr_16_1, lr_16_1, kr_16_2, lr_16_2]
            cases h
            exact ⟨Nat.le_refl _, Nat.le_refl _, hq⟩
          · replace h := gw_ifn h c_25
            obtain ⟨c_27, h⟩ := gw_ife h
            refine ⟨c_27, ?_⟩
            refine hK _ _ _ _ _ _ _ ?_
            rw [fdX10_told_69]
            simp only [gt_nil, true_and, eq_self, gt_iret, gt_retz, bkX10_told_69, ka0_0, ra0_0_0, ka0_1, kr_16_0, rr_16_0_0, rr_16_0_1, kr_16_1, lr_16_1, kr_16_2, lr_16_2]
            cases h
            exact ⟨Nat.le_refl _, Nat.le_refl _, hq⟩
        · replace h := gw_ifn h c_24
          cases h
          exact ⟨Nat.le_refl _, Nat.le_refl _, hq⟩
      · replace h := gw_ifn h c_15
        refine hK _ _ _ _ _ _ _ ?_
        rw [fdX10_told_25]
        simp only [gt_nil, true_and, eq_self, gt_iconst, gt_iret, gt_retz, bkX10_told_25, ka0_0, ra0_0_0, ka0_1]
        cases h
        exact ⟨Nat.le_refl _, Nat.le_refl _, hq⟩
def F_X10_folded (n0 : Nat) (a0 : Nat) (v1 : Int32) (μ : gw_M) : Option (Int32 × gw_M) := (F_X8_byAge n0 (a0 + 9) v1 μ).bind (fun (z_4 : Int32 × gw_M) => some (z_4.1, z_4.2))
theorem ok_X10_folded {l : Launch} {x : gw_C} {d : Nat} {S : gw_S} {Q : Option Value → gw_S → gw_M → Prop} {v1 : Int32} {a0 : Nat} {n0 : Nat} {μ : gw_M} {r μ'} (hS0 : gw_sh S 10 a0) (h : F_X10_folded n0 a0 v1 μ = some (r, μ')) (hq : Q (some (.int r)) S μ') : gw_ok l x (d + 3) sgX10_folded 0 0 [.ref a0, .int v1] S μ Q := by
  refine gw_ok_of stX10_folded (lv0 := [.ref a0, .int v1]) (Nat.le_of_ble_eq_true rfl) rfl rfl ?_
  intro K hK
  have ka0_0 : gw_kd S a0 = 10 := (hS0 0 _ rfl).1
  have ra0_0_0 : gw_rf S a0 0 = a0 + 1 := (hS0 0 _ rfl).2.2 (0, 1) (by decide)
  have ka0_1 : gw_kd S (a0 + 1) = 3 := (hS0 1 _ rfl).1
  have ra0_1_1 : gw_rf S (a0 + 1) 1 = a0 + 9 := (hS0 1 _ rfl).2.2 (1, 9) (by decide)
  have ka0_9 : gw_kd S (a0 + 9) = 8 := (hS0 9 _ rfl).1
  unfold F_X10_folded at h
  refine hK _ _ _ _ _ _ _ ?_
  rw [fdX10_folded_0]
  simp only [gt_nil, true_and, eq_self, gt_aload_n, gt_rfk, gw_nth, gt_get_r, gt_get_i, gt_get_z, gt_iload_n, gt_ink, gt_v0, gt_v1, gt_v2, gt_v3, gt_v4, gt_v5, gt_iret, gt_retz, bkX10_folded_0, ka0_0, ra0_0_0, ka0_1, ra0_1_1, ka0_9]
  obtain ⟨⟨r_1, μ_2⟩, e_3, h⟩ := gw_bnd h
  refine ⟨rfl, 0, 0, Nat.le_refl _, Nat.le_refl _, ok_X8_byAge (gw_sub hS0 8 9 (by decide +kernel)) e_3 ?_⟩
  dsimp only at h
  simp only [gt_nil, true_and, eq_self, gt_iret, gt_retz, Option.toList, List.cons_append, List.nil_append, Nat.add_zero, ka0_0, ra0_0_0, ka0_1, ra0_1_1, ka0_9]
  cases h
  exact ⟨Nat.le_refl _, Nat.le_refl _, hq⟩
def F_X10_isFrame (n0 : Nat) (v0 : Int32) (μ : gw_M) : Option (Int32 × gw_M) := (F_X10_within n0 v0 0 9 μ).bind (fun (z_4 : Int32 × gw_M) => some (z_4.1, z_4.2))
theorem ok_X10_isFrame {l : Launch} {x : gw_C} {d : Nat} {S : gw_S} {Q : Option Value → gw_S → gw_M → Prop} {v0 : Int32} {n0 : Nat} {μ : gw_M} {r μ'} (h : F_X10_isFrame n0 v0 μ = some (r, μ')) (hq : ((r = 0 ∨ r = 1) → Q (some (.int r)) S μ')) : gw_ok l x (d + 2) sgX10_isFrame 0 0 [.int v0] S μ Q := by
  refine gw_ok_of stX10_isFrame (lv0 := [.int v0]) (Nat.le_of_ble_eq_true rfl) rfl rfl ?_
  intro K hK
  unfold F_X10_isFrame at h
  refine hK _ _ _ _ _ _ _ ?_
  rw [fdX10_isFrame_0]
  simp only [gt_nil, true_and, eq_self, gt_iload_n, gt_ink, gw_nth, gt_iconst, gt_bipush, gt_s1_0, gt_s2_0, gt_s3_0, gt_s4_0, gt_s1_1, gt_s2_1, gt_s3_1, gt_s4_1, gt_acpy, gt_iret, gt_retz, bkX10_isFrame_0]
  obtain ⟨⟨r_1, μ_2⟩, e_3, h⟩ := gw_bnd h
  refine ⟨rfl, 0, 0, Nat.le_refl _, Nat.le_refl _, ok_X10_within e_3 ?_⟩
  intro hbr_1
  dsimp only at h
  simp only [gt_nil, true_and, eq_self, gt_iret, gt_retz, Option.toList, List.cons_append, List.nil_append, Nat.add_zero]
  cases h
  exact ⟨hbr_1, Nat.le_refl _, Nat.le_refl _, hq hbr_1⟩
def F_X10_frame (n0 : Nat) (a0 : Nat) (v1 : Int32) (μ : gw_M) : Option (Int32 × gw_M) := (F_X10_isFrame n0 v1 μ).bind (fun (z_4 : Int32 × gw_M) => (if z_4.1 = 0 then some ((-1), z_4.2) else (if 0 ≤ v1 ∧ v1.toNatClampNeg < 10 then some ((z_4.2 (a0 + 7) v1.toNatClampNeg), z_4.2) else none)))
theorem ok_X10_frame {l : Launch} {x : gw_C} {d : Nat} {S : gw_S} {Q : Option Value → gw_S → gw_M → Prop} {v1 : Int32} {a0 : Nat} {n0 : Nat} {μ : gw_M} {r μ'} (hS0 : gw_sh S 10 a0) (h : F_X10_frame n0 a0 v1 μ = some (r, μ')) (hq : Q (some (.int r)) S μ') : gw_ok l x (d + 3) sgX10_frame 0 0 [.ref a0, .int v1] S μ Q := by
  refine gw_ok_of stX10_frame (lv0 := [.ref a0, .int v1]) (Nat.le_of_ble_eq_true rfl) rfl rfl ?_
  intro K hK
  have ka0_0 : gw_kd S a0 = 10 := (hS0 0 _ rfl).1
  have ra0_0_0 : gw_rf S a0 0 = a0 + 1 := (hS0 0 _ rfl).2.2 (0, 1) (by decide)
  have ka0_1 : gw_kd S (a0 + 1) = 3 := (hS0 1 _ rfl).1
  have ra0_1_0 : gw_rf S (a0 + 1) 0 = a0 + 2 := (hS0 1 _ rfl).2.2 (0, 2) (by decide)
  have ka0_2 : gw_kd S (a0 + 2) = 4 := (hS0 2 _ rfl).1
  have ra0_2_1 : gw_rf S (a0 + 2) 1 = a0 + 7 := (hS0 2 _ rfl).2.2 (1, 7) (by decide)
  have ka0_7 : gw_kd S (a0 + 7) = 12 := (hS0 7 _ rfl).1
  have la0_7 : gw_ln S (a0 + 7) = 10 := (hS0 7 _ rfl).2.1
  unfold F_X10_frame at h
  refine hK _ _ _ _ _ _ _ ?_
  rw [fdX10_frame_0]
  simp only [gt_nil, true_and, eq_self, gt_iload_n, gt_ink, gw_nth, gt_s1_0, gt_s2_0, gt_s3_0, gt_s4_0, gt_s1_1, gt_s2_1, gt_s3_1, gt_s4_1, gt_acpy, gt_if, gt_aload_n, gt_rfk, gt_get_r, gt_get_i, gt_get_z, gt_iaload, gt_goto, bkX10_frame_0, ka0_0, ra0_0_0, ka0_1, ra0_1_0, ka0_2, ra0_2_1, ka0_7, la0_7]
  obtain ⟨⟨r_1, μ_2⟩, e_3, h⟩ := gw_bnd h
  refine ⟨rfl, 0, 0, Nat.le_refl _, Nat.le_refl _, ok_X10_isFrame e_3 ?_⟩
  intro hbr_1
  dsimp only at h
  simp only [gt_nil, true_and, eq_self, gt_if, gt_aload_n, gt_rfk, gw_nth, gt_get_r, gt_get_i, gt_get_z, gt_iload_n, gt_ink, gt_iaload, gt_goto, Option.toList, List.cons_append, List.nil_append, Nat.add_zero, ka0_0, ra0_0_0, ka0_1, ra0_1_0, ka0_2, ra0_2_1, ka0_7, la0_7]
  refine ⟨fun c_5 => ?_, fun c_5 => ?_⟩
  · replace h := gw_ifp h c_5
    refine hK _ _ _ _ _ _ _ ?_
    rw [fdX10_frame_22]
    simp only [gt_nil, true_and, eq_self, gt_iconst, bkX10_frame_22, ka0_0, ra0_0_0, ka0_1, ra0_1_0, ka0_2, ra0_2_1, ka0_7, la0_7]
    refine hK _ _ _ _ _ _ _ ?_
    rw [fdX10_frame_23]
    simp only [gt_nil, true_and, eq_self, gt_iret, gt_retz, bkX10_frame_23, ka0_0, ra0_0_0, ka0_1, ra0_1_0, ka0_2, ra0_2_1, ka0_7, la0_7]
    cases h
    exact ⟨Nat.le_refl _, Nat.le_refl _, hq⟩
  · replace h := gw_ifn h c_5
    obtain ⟨c_6, h⟩ := gw_ife h
    refine ⟨c_6, ?_⟩
    refine hK _ _ _ _ _ _ _ ?_
    rw [fdX10_frame_23]
    simp only [gt_nil, true_and, eq_self, gt_iret, gt_retz, bkX10_frame_23, ka0_0, ra0_0_0, ka0_1, ra0_1_0, ka0_2, ra0_2_1, ka0_7, la0_7]
    cases h
    exact ⟨Nat.le_refl _, Nat.le_refl _, hq⟩
def F_X10_handled (n0 : Nat) (a0 : Nat) (v1 : Int32) (μ : gw_M) : Option (Int32 × gw_M) := (F_X10_mayHaveHandler n0 v1 μ).bind (fun (z_4 : Int32 × gw_M) => (if z_4.1 = 0 then some ((-1), z_4.2) else (if 0 ≤ v1 ∧ v1.toNatClampNeg < 10 then some ((z_4.2 (a0 + 21) v1.toNatClampNeg), z_4.2) else none)))
theorem ok_X10_handled {l : Launch} {x : gw_C} {d : Nat} {S : gw_S} {Q : Option Value → gw_S → gw_M → Prop} {v1 : Int32} {a0 : Nat} {n0 : Nat} {μ : gw_M} {r μ'} (hS0 : gw_sh S 10 a0) (h : F_X10_handled n0 a0 v1 μ = some (r, μ')) (hq : Q (some (.int r)) S μ') : gw_ok l x (d + 2) sgX10_handled 0 0 [.ref a0, .int v1] S μ Q := by
  refine gw_ok_of stX10_handled (lv0 := [.ref a0, .int v1]) (Nat.le_of_ble_eq_true rfl) rfl rfl ?_
  intro K hK
  have ka0_0 : gw_kd S a0 = 10 := (hS0 0 _ rfl).1
  have ra0_0_0 : gw_rf S a0 0 = a0 + 1 := (hS0 0 _ rfl).2.2 (0, 1) (by decide)
  have ka0_1 : gw_kd S (a0 + 1) = 3 := (hS0 1 _ rfl).1
  have ra0_1_9 : gw_rf S (a0 + 1) 9 = a0 + 21 := (hS0 1 _ rfl).2.2 (9, 21) (by decide)
  have ka0_21 : gw_kd S (a0 + 21) = 12 := (hS0 21 _ rfl).1
  have la0_21 : gw_ln S (a0 + 21) = 10 := (hS0 21 _ rfl).2.1
  unfold F_X10_handled at h
  refine hK _ _ _ _ _ _ _ ?_
  rw [fdX10_handled_0]
  simp only [gt_nil, true_and, eq_self, gt_iload_n, gt_ink, gw_nth, gt_s1_0, gt_s2_0, gt_s3_0, gt_s4_0, gt_s1_1, gt_s2_1, gt_s3_1, gt_s4_1, gt_acpy, gt_if, gt_aload_n, gt_rfk, gt_get_r, gt_get_i, gt_get_z, gt_iaload, gt_goto, bkX10_handled_0, ka0_0, ra0_0_0, ka0_1, ra0_1_9, ka0_21, la0_21]
  obtain ⟨⟨r_1, μ_2⟩, e_3, h⟩ := gw_bnd h
  refine ⟨rfl, 0, 0, Nat.le_refl _, Nat.le_refl _, ok_X10_mayHaveHandler e_3 ?_⟩
  intro hbr_1
  dsimp only at h
  simp only [gt_nil, true_and, eq_self, gt_if, gt_aload_n, gt_rfk, gw_nth, gt_get_r, gt_get_i, gt_get_z, gt_iload_n, gt_ink, gt_iaload, gt_goto, Option.toList, List.cons_append, List.nil_append, Nat.add_zero, ka0_0, ra0_0_0, ka0_1, ra0_1_9, ka0_21, la0_21]
  refine ⟨fun c_5 => ?_, fun c_5 => ?_⟩
  · replace h := gw_ifp h c_5
    refine hK _ _ _ _ _ _ _ ?_
    rw [fdX10_handled_19]
    simp only [gt_nil, true_and, eq_self, gt_iconst, bkX10_handled_19, ka0_0, ra0_0_0, ka0_1, ra0_1_9, ka0_21, la0_21]
    refine hK _ _ _ _ _ _ _ ?_
    rw [fdX10_handled_20]
    simp only [gt_nil, true_and, eq_self, gt_iret, gt_retz, bkX10_handled_20, ka0_0, ra0_0_0, ka0_1, ra0_1_9, ka0_21, la0_21]
    cases h
    exact ⟨Nat.le_refl _, Nat.le_refl _, hq⟩
  · replace h := gw_ifn h c_5
    obtain ⟨c_6, h⟩ := gw_ife h
    refine ⟨c_6, ?_⟩
    refine hK _ _ _ _ _ _ _ ?_
    rw [fdX10_handled_20]
    simp only [gt_nil, true_and, eq_self, gt_iret, gt_retz, bkX10_handled_20, ka0_0, ra0_0_0, ka0_1, ra0_1_9, ka0_21, la0_21]
    cases h
    exact ⟨Nat.le_refl _, Nat.le_refl _, hq⟩
def F_X10_stored (n0 : Nat) (a0 : Nat) (v1 : Int32) (μ : gw_M) : Option (Int32 × gw_M) := (F_X10_isPage n0 v1 μ).bind (fun (z_4 : Int32 × gw_M) => (if z_4.1 = 0 then some ((-1), z_4.2) else (if 0 ≤ v1 ∧ v1.toNatClampNeg < 16 then some ((z_4.2 (a0 + 8) v1.toNatClampNeg), z_4.2) else none)))
theorem ok_X10_stored {l : Launch} {x : gw_C} {d : Nat} {S : gw_S} {Q : Option Value → gw_S → gw_M → Prop} {v1 : Int32} {a0 : Nat} {n0 : Nat} {μ : gw_M} {r μ'} (hS0 : gw_sh S 10 a0) (h : F_X10_stored n0 a0 v1 μ = some (r, μ')) (hq : Q (some (.int r)) S μ') : gw_ok l x (d + 3) sgX10_stored 0 0 [.ref a0, .int v1] S μ Q := by
  refine gw_ok_of stX10_stored (lv0 := [.ref a0, .int v1]) (Nat.le_of_ble_eq_true rfl) rfl rfl ?_
  intro K hK
  have ka0_0 : gw_kd S a0 = 10 := (hS0 0 _ rfl).1
  have ra0_0_0 : gw_rf S a0 0 = a0 + 1 := (hS0 0 _ rfl).2.2 (0, 1) (by decide)
  have ka0_1 : gw_kd S (a0 + 1) = 3 := (hS0 1 _ rfl).1
  have ra0_1_0 : gw_rf S (a0 + 1) 0 = a0 + 2 := (hS0 1 _ rfl).2.2 (0, 2) (by decide)
  have ka0_2 : gw_kd S (a0 + 2) = 4 := (hS0 2 _ rfl).1
  have ra0_2_2 : gw_rf S (a0 + 2) 2 = a0 + 8 := (hS0 2 _ rfl).2.2 (2, 8) (by decide)
  have ka0_8 : gw_kd S (a0 + 8) = 12 := (hS0 8 _ rfl).1
  have la0_8 : gw_ln S (a0 + 8) = 16 := (hS0 8 _ rfl).2.1
  unfold F_X10_stored at h
  refine hK _ _ _ _ _ _ _ ?_
  rw [fdX10_stored_0]
  simp only [gt_nil, true_and, eq_self, gt_iload_n, gt_ink, gw_nth, gt_s1_0, gt_s2_0, gt_s3_0, gt_s4_0, gt_s1_1, gt_s2_1, gt_s3_1, gt_s4_1, gt_acpy, gt_if, gt_aload_n, gt_rfk, gt_get_r, gt_get_i, gt_get_z, gt_iaload, gt_goto, bkX10_stored_0, ka0_0, ra0_0_0, ka0_1, ra0_1_0, ka0_2, ra0_2_2, ka0_8, la0_8]
  obtain ⟨⟨r_1, μ_2⟩, e_3, h⟩ := gw_bnd h
  refine ⟨rfl, 0, 0, Nat.le_refl _, Nat.le_refl _, ok_X10_isPage e_3 ?_⟩
  intro hbr_1
  dsimp only at h
  simp only [gt_nil, true_and, eq_self, gt_if, gt_aload_n, gt_rfk, gw_nth, gt_get_r, gt_get_i, gt_get_z, gt_iload_n, gt_ink, gt_iaload, gt_goto, Option.toList, List.cons_append, List.nil_append, Nat.add_zero, ka0_0, ra0_0_0, ka0_1, ra0_1_0, ka0_2, ra0_2_2, ka0_8, la0_8]
  refine ⟨fun c_5 => ?_, fun c_5 => ?_⟩
  · replace h := gw_ifp h c_5
    refine hK _ _ _ _ _ _ _ ?_
    rw [fdX10_stored_22]
    simp only [gt_nil, true_and, eq_self, gt_iconst, bkX10_stored_22, ka0_0, ra0_0_0, ka0_1, ra0_1_0, ka0_2, ra0_2_2, ka0_8, la0_8]
    refine hK _ _ _ _ _ _ _ ?_
    rw [fdX10_stored_23]
    simp only [gt_nil, true_and, eq_self, gt_iret, gt_retz, bkX10_stored_23, ka0_0, ra0_0_0, ka0_1, ra0_1_0, ka0_2, ra0_2_2, ka0_8, la0_8]
    cases h
    exact ⟨Nat.le_refl _, Nat.le_refl _, hq⟩
  · replace h := gw_ifn h c_5
    obtain ⟨c_6, h⟩ := gw_ife h
    refine ⟨c_6, ?_⟩
    refine hK _ _ _ _ _ _ _ ?_
    rw [fdX10_stored_23]
    simp only [gt_nil, true_and, eq_self, gt_iret, gt_retz, bkX10_stored_23, ka0_0, ra0_0_0, ka0_1, ra0_1_0, ka0_2, ra0_2_2, ka0_8, la0_8]
    cases h
    exact ⟨Nat.le_refl _, Nat.le_refl _, hq⟩
def F_X10_backed (n0 : Nat) (a0 : Nat) (v1 : Int32) (μ : gw_M) : Option (Int32 × gw_M) := (F_X8_byAge n0 (a0 + 3) v1 μ).bind (fun (z_4 : Int32 × gw_M) => some (z_4.1, z_4.2))
theorem ok_X10_backed {l : Launch} {x : gw_C} {d : Nat} {S : gw_S} {Q : Option Value → gw_S → gw_M → Prop} {v1 : Int32} {a0 : Nat} {n0 : Nat} {μ : gw_M} {r μ'} (hS0 : gw_sh S 10 a0) (h : F_X10_backed n0 a0 v1 μ = some (r, μ')) (hq : Q (some (.int r)) S μ') : gw_ok l x (d + 3) sgX10_backed 0 0 [.ref a0, .int v1] S μ Q := by
  refine gw_ok_of stX10_backed (lv0 := [.ref a0, .int v1]) (Nat.le_of_ble_eq_true rfl) rfl rfl ?_
  intro K hK
  have ka0_0 : gw_kd S a0 = 10 := (hS0 0 _ rfl).1
  have ra0_0_0 : gw_rf S a0 0 = a0 + 1 := (hS0 0 _ rfl).2.2 (0, 1) (by decide)
  have ka0_1 : gw_kd S (a0 + 1) = 3 := (hS0 1 _ rfl).1
  have ra0_1_0 : gw_rf S (a0 + 1) 0 = a0 + 2 := (hS0 1 _ rfl).2.2 (0, 2) (by decide)
  have ka0_2 : gw_kd S (a0 + 2) = 4 := (hS0 2 _ rfl).1
  have ra0_2_0 : gw_rf S (a0 + 2) 0 = a0 + 3 := (hS0 2 _ rfl).2.2 (0, 3) (by decide)
  have ka0_3 : gw_kd S (a0 + 3) = 8 := (hS0 3 _ rfl).1
  unfold F_X10_backed at h
  refine hK _ _ _ _ _ _ _ ?_
  rw [fdX10_backed_0]
  simp only [gt_nil, true_and, eq_self, gt_aload_n, gt_rfk, gw_nth, gt_get_r, gt_get_i, gt_get_z, gt_iload_n, gt_ink, gt_v0, gt_v1, gt_v2, gt_v3, gt_v4, gt_v5, gt_iret, gt_retz, bkX10_backed_0, ka0_0, ra0_0_0, ka0_1, ra0_1_0, ka0_2, ra0_2_0, ka0_3]
  obtain ⟨⟨r_1, μ_2⟩, e_3, h⟩ := gw_bnd h
  refine ⟨rfl, 0, 0, Nat.le_refl _, Nat.le_refl _, ok_X8_byAge (gw_sub hS0 8 3 (by decide +kernel)) e_3 ?_⟩
  dsimp only at h
  simp only [gt_nil, true_and, eq_self, gt_iret, gt_retz, Option.toList, List.cons_append, List.nil_append, Nat.add_zero, ka0_0, ra0_0_0, ka0_1, ra0_1_0, ka0_2, ra0_2_0, ka0_3]
  cases h
  exact ⟨Nat.le_refl _, Nat.le_refl _, hq⟩
def F_X10_copied (n0 : Nat) (a0 : Nat) (μ : gw_M) : Option (Int32 × gw_M) := some ((μ (a0 + 2) 3), μ)
theorem ok_X10_copied {l : Launch} {x : gw_C} {d : Nat} {S : gw_S} {Q : Option Value → gw_S → gw_M → Prop} {a0 : Nat} {n0 : Nat} {μ : gw_M} {r μ'} (hS0 : gw_sh S 10 a0) (h : F_X10_copied n0 a0 μ = some (r, μ')) (hq : Q (some (.int r)) S μ') : gw_ok l x (d + 1) sgX10_copied 0 0 [.ref a0] S μ Q := by
  refine gw_ok_of stX10_copied (lv0 := [.ref a0]) (Nat.le_of_ble_eq_true rfl) rfl rfl ?_
  intro K hK
  have ka0_0 : gw_kd S a0 = 10 := (hS0 0 _ rfl).1
  have ra0_0_0 : gw_rf S a0 0 = a0 + 1 := (hS0 0 _ rfl).2.2 (0, 1) (by decide)
  have ka0_1 : gw_kd S (a0 + 1) = 3 := (hS0 1 _ rfl).1
  have ra0_1_0 : gw_rf S (a0 + 1) 0 = a0 + 2 := (hS0 1 _ rfl).2.2 (0, 2) (by decide)
  have ka0_2 : gw_kd S (a0 + 2) = 4 := (hS0 2 _ rfl).1
  unfold F_X10_copied at h
  refine hK _ _ _ _ _ _ _ ?_
  rw [fdX10_copied_0]
  simp only [gt_nil, true_and, eq_self, gt_aload_n, gt_rfk, gw_nth, gt_get_r, gt_get_i, gt_get_z, gt_iret, gt_retz, bkX10_copied_0, ka0_0, ra0_0_0, ka0_1, ra0_1_0, ka0_2]
  cases h
  exact ⟨Nat.le_refl _, Nat.le_refl _, hq⟩
def F_X10_trapped (n0 : Nat) (a0 : Nat) (v1 : Int32) (μ : gw_M) : Option (Int32 × gw_M) := (if v1 = (0 : Int32) then (F_X3_inHand n0 (a0 + 1) μ).bind (fun (z_5 : Nat × gw_M) => some ((z_5.2 z_5.1 4), z_5.2)) else (if v1 = ((0 : Int32) + 1) then (F_X3_inHand n0 (a0 + 1) μ).bind (fun (z_10 : Nat × gw_M) => some ((z_10.2 z_10.1 5), z_10.2)) else (if v1 = (((0 : Int32) + 1) + 1) then (F_X3_inHand n0 (a0 + 1) μ).bind (fun (z_15 : Nat × gw_M) => some ((z_15.2 z_15.1 3), z_15.2)) else some ((-1), μ))))
theorem ok_X10_trapped {l : Launch} {x : gw_C} {d : Nat} {S : gw_S} {Q : Option Value → gw_S → gw_M → Prop} {v1 : Int32} {a0 : Nat} {n0 : Nat} {μ : gw_M} {r μ'} (hS0 : gw_sh S 10 a0) (h : F_X10_trapped n0 a0 v1 μ = some (r, μ')) (hq : Q (some (.int r)) S μ') : gw_ok l x (d + 2) sgX10_trapped 0 0 [.ref a0, .int v1] S μ Q := by
  refine gw_ok_of stX10_trapped (lv0 := [.ref a0, .int v1]) (Nat.le_of_ble_eq_true rfl) rfl rfl ?_
  intro K hK
  have ka0_0 : gw_kd S a0 = 10 := (hS0 0 _ rfl).1
  have ra0_0_0 : gw_rf S a0 0 = a0 + 1 := (hS0 0 _ rfl).2.2 (0, 1) (by decide)
  have ka0_1 : gw_kd S (a0 + 1) = 3 := (hS0 1 _ rfl).1
  unfold F_X10_trapped at h
  refine hK _ _ _ _ _ _ _ ?_
  rw [fdX10_trapped_0]
  simp only [gt_nil, true_and, eq_self, gt_iload_n, gt_ink, gw_nth, gt_tsw, gw_sw, bkX10_trapped_0, ka0_0, ra0_0_0, ka0_1]
  refine ⟨fun c_1 => ?_, fun c_1 => ?_⟩
  · replace h := gw_ifp h c_1
    refine hK _ _ _ _ _ _ _ ?_
    rw [fdX10_trapped_28]
    simp only [gt_nil, true_and, eq_self, gt_aload_n, gt_rfk, gw_nth, gt_get_r, gt_get_i, gt_get_z, gt_v0, gt_v1, gt_v2, gt_v3, gt_v4, gt_v5, gt_iret, gt_retz, bkX10_trapped_28, ka0_0, ra0_0_0, ka0_1]
    obtain ⟨⟨r_2, μ_3⟩, e_4, h⟩ := gw_bnd h
    refine ⟨rfl, 0, 0, Nat.le_refl _, Nat.le_refl _, ok_X3_inHand (gw_sub hS0 3 1 (by decide +kernel)) e_4 ?_⟩
    intro hsr_2
    have kr_2_0 : gw_kd S r_2 = 1 := (hsr_2 0 _ rfl).1
    dsimp only at h
    simp only [gt_nil, true_and, eq_self, gt_get_r, gt_get_i, gt_get_z, gt_iret, gt_retz, Option.toList, List.cons_append, List.nil_append, Nat.add_zero, ka0_0, ra0_0_0, ka0_1, kr_2_0]
    cases h
    exact ⟨Nat.le_refl _, Nat.le_refl _, hq⟩
  replace h := gw_ifn h c_1
  refine ⟨fun c_6 => ?_, fun c_6 => ?_⟩
  · replace h := gw_ifp h c_6
    refine hK _ _ _ _ _ _ _ ?_
    rw [fdX10_trapped_39]
    simp only [gt_nil, true_and, eq_self, gt_aload_n, gt_rfk, gw_nth, gt_get_r, gt_get_i, gt_get_z, gt_v0, gt_v1, gt_v2, gt_v3, gt_v4, gt_v5, gt_iret, gt_retz, bkX10_trapped_39, ka0_0, ra0_0_0, ka0_1]
    obtain ⟨⟨r_7, μ_8⟩, e_9, h⟩ := gw_bnd h
    refine ⟨rfl, 0, 0, Nat.le_refl _, Nat.le_refl _, ok_X3_inHand (gw_sub hS0 3 1 (by decide +kernel)) e_9 ?_⟩
    intro hsr_7
    have kr_7_0 : gw_kd S r_7 = 1 := (hsr_7 0 _ rfl).1
    dsimp only at h
    simp only [gt_nil, true_and, eq_self, gt_get_r, gt_get_i, gt_get_z, gt_iret, gt_retz, Option.toList, List.cons_append, List.nil_append, Nat.add_zero, ka0_0, ra0_0_0, ka0_1, kr_7_0]
    cases h
    exact ⟨Nat.le_refl _, Nat.le_refl _, hq⟩
  replace h := gw_ifn h c_6
  refine ⟨fun c_11 => ?_, fun c_11 => ?_⟩
  · replace h := gw_ifp h c_11
    refine hK _ _ _ _ _ _ _ ?_
    rw [fdX10_trapped_50]
    simp only [gt_nil, true_and, eq_self, gt_aload_n, gt_rfk, gw_nth, gt_get_r, gt_get_i, gt_get_z, gt_v0, gt_v1, gt_v2, gt_v3, gt_v4, gt_v5, gt_iret, gt_retz, bkX10_trapped_50, ka0_0, ra0_0_0, ka0_1]
    obtain ⟨⟨r_12, μ_13⟩, e_14, h⟩ := gw_bnd h
    refine ⟨rfl, 0, 0, Nat.le_refl _, Nat.le_refl _, ok_X3_inHand (gw_sub hS0 3 1 (by decide +kernel)) e_14 ?_⟩
    intro hsr_12
    have kr_12_0 : gw_kd S r_12 = 1 := (hsr_12 0 _ rfl).1
    dsimp only at h
    simp only [gt_nil, true_and, eq_self, gt_get_r, gt_get_i, gt_get_z, gt_iret, gt_retz, Option.toList, List.cons_append, List.nil_append, Nat.add_zero, ka0_0, ra0_0_0, ka0_1, kr_12_0]
    cases h
    exact ⟨Nat.le_refl _, Nat.le_refl _, hq⟩
  replace h := gw_ifn h c_11
  refine hK _ _ _ _ _ _ _ ?_
  rw [fdX10_trapped_61]
  simp only [gt_nil, true_and, eq_self, gt_iconst, gt_iret, gt_retz, bkX10_trapped_61, ka0_0, ra0_0_0, ka0_1]
  cases h
  exact ⟨Nat.le_refl _, Nat.le_refl _, hq⟩
def F_X10_heard (n0 : Nat) (a0 : Nat) (v1 : Int32) (μ : gw_M) : Option (Int32 × gw_M) := (if ¬ v1 = (-1) then (F_X2_heardAt n0 (a0 + 26) v1 μ).bind (fun (z_5 : Int32 × gw_M) => some (z_5.1, z_5.2)) else (F_X2_heardKept n0 (a0 + 26) μ).bind (fun (z_9 : Int32 × gw_M) => some (z_9.1, z_9.2)))
theorem ok_X10_heard {l : Launch} {x : gw_C} {d : Nat} {S : gw_S} {Q : Option Value → gw_S → gw_M → Prop} {v1 : Int32} {a0 : Nat} {n0 : Nat} {μ : gw_M} {r μ'} (hS0 : gw_sh S 10 a0) (h : F_X10_heard n0 a0 v1 μ = some (r, μ')) (hq : Q (some (.int r)) S μ') : gw_ok l x (d + 4) sgX10_heard 0 0 [.ref a0, .int v1] S μ Q := by
  refine gw_ok_of stX10_heard (lv0 := [.ref a0, .int v1]) (Nat.le_of_ble_eq_true rfl) rfl rfl ?_
  intro K hK
  have ka0_0 : gw_kd S a0 = 10 := (hS0 0 _ rfl).1
  have ra0_0_0 : gw_rf S a0 0 = a0 + 1 := (hS0 0 _ rfl).2.2 (0, 1) (by decide)
  have ka0_1 : gw_kd S (a0 + 1) = 3 := (hS0 1 _ rfl).1
  have ra0_1_14 : gw_rf S (a0 + 1) 14 = a0 + 26 := (hS0 1 _ rfl).2.2 (14, 26) (by decide)
  have ka0_26 : gw_kd S (a0 + 26) = 2 := (hS0 26 _ rfl).1
  unfold F_X10_heard at h
  refine hK _ _ _ _ _ _ _ ?_
  rw [fdX10_heard_0]
  simp only [gt_nil, true_and, eq_self, gt_iload_n, gt_ink, gw_nth, gt_iconst, gt_icmp, gt_aload_n, gt_rfk, gt_get_r, gt_get_i, gt_get_z, gt_v0, gt_v1, gt_v2, gt_v3, gt_v4, gt_v5, gt_goto, bkX10_heard_0, ka0_0, ra0_0_0, ka0_1, ra0_1_14, ka0_26]
  refine ⟨fun c_1 => ?_, fun c_1 => ?_⟩
  · replace h := gw_ifp h c_1
    refine hK _ _ _ _ _ _ _ ?_
    rw [fdX10_heard_18]
    simp only [gt_nil, true_and, eq_self, gt_aload_n, gt_rfk, gw_nth, gt_get_r, gt_get_i, gt_get_z, gt_iload_n, gt_ink, gt_v0, gt_v1, gt_v2, gt_v3, gt_v4, gt_v5, bkX10_heard_18, ka0_0, ra0_0_0, ka0_1, ra0_1_14, ka0_26]
    obtain ⟨⟨r_2, μ_3⟩, e_4, h⟩ := gw_bnd h
    refine ⟨rfl, 0, 0, Nat.le_refl _, Nat.le_refl _, ok_X2_heardAt (gw_sub hS0 2 26 (by decide +kernel)) e_4 ?_⟩
    dsimp only at h
    simp only [gt_nil, true_and, eq_self, Option.toList, List.cons_append, List.nil_append, Nat.add_zero, ka0_0, ra0_0_0, ka0_1, ra0_1_14, ka0_26]
    refine hK _ _ _ _ _ _ _ ?_
    rw [fdX10_heard_29]
    simp only [gt_nil, true_and, eq_self, gt_iret, gt_retz, bkX10_heard_29, ka0_0, ra0_0_0, ka0_1, ra0_1_14, ka0_26]
    cases h
    exact ⟨Nat.le_refl _, Nat.le_refl _, hq⟩
  · replace h := gw_ifn h c_1
    obtain ⟨⟨r_6, μ_7⟩, e_8, h⟩ := gw_bnd h
    refine ⟨rfl, 0, 0, Nat.le_refl _, Nat.le_refl _, ok_X2_heardKept (gw_sub hS0 2 26 (by decide +kernel)) e_8 ?_⟩
    dsimp only at h
    simp only [gt_nil, true_and, eq_self, gt_goto, Option.toList, List.cons_append, List.nil_append, Nat.add_zero, ka0_0, ra0_0_0, ka0_1, ra0_1_14, ka0_26]
    refine hK _ _ _ _ _ _ _ ?_
    rw [fdX10_heard_29]
    simp only [gt_nil, true_and, eq_self, gt_iret, gt_retz, bkX10_heard_29, ka0_0, ra0_0_0, ka0_1, ra0_1_14, ka0_26]
    cases h
    exact ⟨Nat.le_refl _, Nat.le_refl _, hq⟩
def F_X10_changed (n0 : Nat) (a0 : Nat) (μ : gw_M) : Option (Int32 × gw_M) := some ((μ (a0 + 2) 4), μ)
theorem ok_X10_changed {l : Launch} {x : gw_C} {d : Nat} {S : gw_S} {Q : Option Value → gw_S → gw_M → Prop} {a0 : Nat} {n0 : Nat} {μ : gw_M} {r μ'} (hS0 : gw_sh S 10 a0) (h : F_X10_changed n0 a0 μ = some (r, μ')) (hq : Q (some (.int r)) S μ') : gw_ok l x (d + 1) sgX10_changed 0 0 [.ref a0] S μ Q := by
  refine gw_ok_of stX10_changed (lv0 := [.ref a0]) (Nat.le_of_ble_eq_true rfl) rfl rfl ?_
  intro K hK
  have ka0_0 : gw_kd S a0 = 10 := (hS0 0 _ rfl).1
  have ra0_0_0 : gw_rf S a0 0 = a0 + 1 := (hS0 0 _ rfl).2.2 (0, 1) (by decide)
  have ka0_1 : gw_kd S (a0 + 1) = 3 := (hS0 1 _ rfl).1
  have ra0_1_0 : gw_rf S (a0 + 1) 0 = a0 + 2 := (hS0 1 _ rfl).2.2 (0, 2) (by decide)
  have ka0_2 : gw_kd S (a0 + 2) = 4 := (hS0 2 _ rfl).1
  unfold F_X10_changed at h
  refine hK _ _ _ _ _ _ _ ?_
  rw [fdX10_changed_0]
  simp only [gt_nil, true_and, eq_self, gt_aload_n, gt_rfk, gw_nth, gt_get_r, gt_get_i, gt_get_z, gt_iret, gt_retz, bkX10_changed_0, ka0_0, ra0_0_0, ka0_1, ra0_1_0, ka0_2]
  cases h
  exact ⟨Nat.le_refl _, Nat.le_refl _, hq⟩
def F_X10_walk_26 (n0 : Nat) (a0 : Nat) (μ : gw_M) : Option (Int32 × gw_M) := some ((-1), μ)
def F_X10_walk (n0 : Nat) (a0 : Nat) (v1 : Int32) (v2 : Int32) (μ : gw_M) : Option (Int32 × gw_M) := (F_X10_isPage n0 v1 μ).bind (fun (z_4 : Int32 × gw_M) => (if z_4.1 = 0 then F_X10_walk_26 n0 a0 z_4.2 else (F_X10_isWay n0 v2 z_4.2).bind (fun (z_9 : Int32 × gw_M) => (if z_9.1 = 0 then F_X10_walk_26 n0 a0 z_9.2 else (F_X3_walkTables n0 (a0 + 1) v1 v2 z_9.2).bind (fun (z_14 : Int32 × gw_M) => some (z_14.1, z_14.2))))))
theorem B_X10_walk_26 {l : Launch} {x : gw_C} {d : Nat} {S : gw_S} {Q : Option Value → gw_S → gw_M → Prop} {K : Nat → gw_Kt} (hK : gw_cl l x (d + 3) bsX10_walk Q K) {a0 : Nat} (hS0 : gw_sh S 10 a0) {n0 : Nat}  {u1 u2 : Value} {μ : gw_M} {r μ'} (h : F_X10_walk_26 n0 a0 μ = some (r, μ')) (hq : Q (some (.int r)) S μ') : K 26 [.ref a0, u1, u2] [] S μ 0 0 := by
  unfold F_X10_walk_26 at h
  refine hK _ _ _ _ _ _ _ ?_
  rw [fdX10_walk_26]
  simp only [gt_nil, true_and, eq_self, gt_iconst, bkX10_walk_26]
  refine hK _ _ _ _ _ _ _ ?_
  rw [fdX10_walk_27]
  simp only [gt_nil, true_and, eq_self, gt_iret, gt_retz, bkX10_walk_27]
  cases h
  exact ⟨Nat.le_refl _, Nat.le_refl _, hq⟩
theorem ok_X10_walk {l : Launch} {x : gw_C} {d : Nat} {S : gw_S} {Q : Option Value → gw_S → gw_M → Prop} {v1 v2 : Int32} {a0 : Nat} {n0 : Nat} {μ : gw_M} {r μ'} (hS0 : gw_sh S 10 a0) (h : F_X10_walk n0 a0 v1 v2 μ = some (r, μ')) (hq : Q (some (.int r)) S μ') : gw_ok l x (d + 4) sgX10_walk 0 0 [.ref a0, .int v1, .int v2] S μ Q := by
  refine gw_ok_of stX10_walk (lv0 := [.ref a0, .int v1, .int v2]) (Nat.le_of_ble_eq_true rfl) rfl rfl ?_
  intro K hK
  have ka0_0 : gw_kd S a0 = 10 := (hS0 0 _ rfl).1
  have ra0_0_0 : gw_rf S a0 0 = a0 + 1 := (hS0 0 _ rfl).2.2 (0, 1) (by decide)
  have ka0_1 : gw_kd S (a0 + 1) = 3 := (hS0 1 _ rfl).1
  unfold F_X10_walk at h
  refine hK _ _ _ _ _ _ _ ?_
  rw [fdX10_walk_0]
  simp only [gt_nil, true_and, eq_self, gt_iload_n, gt_ink, gw_nth, gt_s1_0, gt_s2_0, gt_s3_0, gt_s4_0, gt_s1_1, gt_s2_1, gt_s3_1, gt_s4_1, gt_acpy, gt_if, gt_aload_n, gt_rfk, gt_get_r, gt_get_i, gt_get_z, gt_v0, gt_v1, gt_v2, gt_v3, gt_v4, gt_v5, gt_goto, bkX10_walk_0, ka0_0, ra0_0_0, ka0_1]
  obtain ⟨⟨r_1, μ_2⟩, e_3, h⟩ := gw_bnd h
  refine ⟨rfl, 0, 0, Nat.le_refl _, Nat.le_refl _, ok_X10_isPage e_3 ?_⟩
  intro hbr_1
  dsimp only at h
  simp only [gt_nil, true_and, eq_self, gt_if, gt_iload_n, gt_ink, gw_nth, gt_s1_0, gt_s2_0, gt_s3_0, gt_s4_0, gt_s1_1, gt_s2_1, gt_s3_1, gt_s4_1, gt_acpy, gt_aload_n, gt_rfk, gt_get_r, gt_get_i, gt_get_z, gt_v0, gt_v1, gt_v2, gt_v3, gt_v4, gt_v5, gt_goto, Option.toList, List.cons_append, List.nil_append, Nat.add_zero, ka0_0, ra0_0_0, ka0_1]
  refine ⟨fun c_5 => ?_, fun c_5 => ?_⟩
  · replace h := gw_ifp h c_5
    exact B_X10_walk_26 hK hS0 h hq
  · replace h := gw_ifn h c_5
    obtain ⟨⟨r_6, μ_7⟩, e_8, h⟩ := gw_bnd h
    refine ⟨rfl, 0, 0, Nat.le_refl _, Nat.le_refl _, ok_X10_isWay e_8 ?_⟩
    intro hbr_6
    dsimp only at h
    simp only [gt_nil, true_and, eq_self, gt_if, gt_aload_n, gt_rfk, gw_nth, gt_get_r, gt_get_i, gt_get_z, gt_iload_n, gt_ink, gt_v0, gt_v1, gt_v2, gt_v3, gt_v4, gt_v5, gt_goto, Option.toList, List.cons_append, List.nil_append, Nat.add_zero, ka0_0, ra0_0_0, ka0_1]
    refine ⟨fun c_10 => ?_, fun c_10 => ?_⟩
    · replace h := gw_ifp h c_10
      exact B_X10_walk_26 hK hS0 h hq
    · replace h := gw_ifn h c_10
      obtain ⟨⟨r_11, μ_12⟩, e_13, h⟩ := gw_bnd h
      refine ⟨rfl, 0, 0, Nat.le_refl _, Nat.le_refl _, ok_X3_walkTables (gw_sub hS0 3 1 (by decide +kernel)) e_13 ?_⟩
      dsimp only at h
      simp only [gt_nil, true_and, eq_self, gt_goto, Option.toList, List.cons_append, List.nil_append, Nat.add_zero, ka0_0, ra0_0_0, ka0_1]
      refine hK _ _ _ _ _ _ _ ?_
      rw [fdX10_walk_27]
      simp only [gt_nil, true_and, eq_self, gt_iret, gt_retz, bkX10_walk_27, ka0_0, ra0_0_0, ka0_1]
      cases h
      exact ⟨Nat.le_refl _, Nat.le_refl _, hq⟩
def F_X10_given (n0 : Nat) (a0 : Nat) (v1 : Int32) (μ : gw_M) : Option (Int32 × gw_M) := (F_X10_isPage n0 v1 μ).bind (fun (z_4 : Int32 × gw_M) => (if z_4.1 = 0 then some ((-1), z_4.2) else (F_X3_rightsOfVirtual n0 (a0 + 1) v1 z_4.2).bind (fun (z_9 : Int32 × gw_M) => some (z_9.1, z_9.2))))
theorem ok_X10_given {l : Launch} {x : gw_C} {d : Nat} {S : gw_S} {Q : Option Value → gw_S → gw_M → Prop} {v1 : Int32} {a0 : Nat} {n0 : Nat} {μ : gw_M} {r μ'} (hS0 : gw_sh S 10 a0) (h : F_X10_given n0 a0 v1 μ = some (r, μ')) (hq : Q (some (.int r)) S μ') : gw_ok l x (d + 4) sgX10_given 0 0 [.ref a0, .int v1] S μ Q := by
  refine gw_ok_of stX10_given (lv0 := [.ref a0, .int v1]) (Nat.le_of_ble_eq_true rfl) rfl rfl ?_
  intro K hK
  have ka0_0 : gw_kd S a0 = 10 := (hS0 0 _ rfl).1
  have ra0_0_0 : gw_rf S a0 0 = a0 + 1 := (hS0 0 _ rfl).2.2 (0, 1) (by decide)
  have ka0_1 : gw_kd S (a0 + 1) = 3 := (hS0 1 _ rfl).1
  unfold F_X10_given at h
  refine hK _ _ _ _ _ _ _ ?_
  rw [fdX10_given_0]
  simp only [gt_nil, true_and, eq_self, gt_iload_n, gt_ink, gw_nth, gt_s1_0, gt_s2_0, gt_s3_0, gt_s4_0, gt_s1_1, gt_s2_1, gt_s3_1, gt_s4_1, gt_acpy, gt_if, gt_aload_n, gt_rfk, gt_get_r, gt_get_i, gt_get_z, gt_v0, gt_v1, gt_v2, gt_v3, gt_v4, gt_v5, gt_goto, bkX10_given_0, ka0_0, ra0_0_0, ka0_1]
  obtain ⟨⟨r_1, μ_2⟩, e_3, h⟩ := gw_bnd h
  refine ⟨rfl, 0, 0, Nat.le_refl _, Nat.le_refl _, ok_X10_isPage e_3 ?_⟩
  intro hbr_1
  dsimp only at h
  simp only [gt_nil, true_and, eq_self, gt_if, gt_aload_n, gt_rfk, gw_nth, gt_get_r, gt_get_i, gt_get_z, gt_iload_n, gt_ink, gt_v0, gt_v1, gt_v2, gt_v3, gt_v4, gt_v5, gt_goto, Option.toList, List.cons_append, List.nil_append, Nat.add_zero, ka0_0, ra0_0_0, ka0_1]
  refine ⟨fun c_5 => ?_, fun c_5 => ?_⟩
  · replace h := gw_ifp h c_5
    refine hK _ _ _ _ _ _ _ ?_
    rw [fdX10_given_18]
    simp only [gt_nil, true_and, eq_self, gt_iconst, bkX10_given_18, ka0_0, ra0_0_0, ka0_1]
    refine hK _ _ _ _ _ _ _ ?_
    rw [fdX10_given_19]
    simp only [gt_nil, true_and, eq_self, gt_iret, gt_retz, bkX10_given_19, ka0_0, ra0_0_0, ka0_1]
    cases h
    exact ⟨Nat.le_refl _, Nat.le_refl _, hq⟩
  · replace h := gw_ifn h c_5
    obtain ⟨⟨r_6, μ_7⟩, e_8, h⟩ := gw_bnd h
    refine ⟨rfl, 0, 0, Nat.le_refl _, Nat.le_refl _, ok_X3_rightsOfVirtual (gw_sub hS0 3 1 (by decide +kernel)) e_8 ?_⟩
    dsimp only at h
    simp only [gt_nil, true_and, eq_self, gt_goto, Option.toList, List.cons_append, List.nil_append, Nat.add_zero, ka0_0, ra0_0_0, ka0_1]
    refine hK _ _ _ _ _ _ _ ?_
    rw [fdX10_given_19]
    simp only [gt_nil, true_and, eq_self, gt_iret, gt_retz, bkX10_given_19, ka0_0, ra0_0_0, ka0_1]
    cases h
    exact ⟨Nat.le_refl _, Nat.le_refl _, hq⟩
def F_X10_lazy (n0 : Nat) (a0 : Nat) (μ : gw_M) : Option (Int32 × gw_M) := (F_X3_lazyPages n0 (a0 + 1) μ).bind (fun (z_4 : Int32 × gw_M) => some (z_4.1, z_4.2))
theorem ok_X10_lazy {l : Launch} {x : gw_C} {d : Nat} {S : gw_S} {Q : Option Value → gw_S → gw_M → Prop} {a0 : Nat} {n0 : Nat} {μ : gw_M} {r μ'} (hS0 : gw_sh S 10 a0) (h : F_X10_lazy n0 a0 μ = some (r, μ')) (hq : Q (some (.int r)) S μ') : gw_ok l x (d + 4) sgX10_lazy 0 0 [.ref a0] S μ Q := by
  refine gw_ok_of stX10_lazy (lv0 := [.ref a0]) (Nat.le_of_ble_eq_true rfl) rfl rfl ?_
  intro K hK
  have ka0_0 : gw_kd S a0 = 10 := (hS0 0 _ rfl).1
  have ra0_0_0 : gw_rf S a0 0 = a0 + 1 := (hS0 0 _ rfl).2.2 (0, 1) (by decide)
  have ka0_1 : gw_kd S (a0 + 1) = 3 := (hS0 1 _ rfl).1
  unfold F_X10_lazy at h
  refine hK _ _ _ _ _ _ _ ?_
  rw [fdX10_lazy_0]
  simp only [gt_nil, true_and, eq_self, gt_aload_n, gt_rfk, gw_nth, gt_get_r, gt_get_i, gt_get_z, gt_v0, gt_v1, gt_v2, gt_v3, gt_v4, gt_v5, gt_iret, gt_retz, bkX10_lazy_0, ka0_0, ra0_0_0, ka0_1]
  obtain ⟨⟨r_1, μ_2⟩, e_3, h⟩ := gw_bnd h
  refine ⟨rfl, 0, 0, Nat.le_refl _, Nat.le_refl _, ok_X3_lazyPages (gw_sub hS0 3 1 (by decide +kernel)) e_3 ?_⟩
  dsimp only at h
  simp only [gt_nil, true_and, eq_self, gt_iret, gt_retz, Option.toList, List.cons_append, List.nil_append, Nat.add_zero, ka0_0, ra0_0_0, ka0_1]
  cases h
  exact ⟨Nat.le_refl _, Nat.le_refl _, hq⟩
def F_X10_aliases (n0 : Nat) (a0 : Nat) (v1 : Int32) (μ : gw_M) : Option (Int32 × gw_M) := (F_X10_isFrame n0 v1 μ).bind (fun (z_4 : Int32 × gw_M) => (if z_4.1 = 0 then some ((-1), z_4.2) else (F_X3_virtualPagesAt n0 (a0 + 1) v1 z_4.2).bind (fun (z_9 : Int32 × gw_M) => some (z_9.1, z_9.2))))
theorem ok_X10_aliases {l : Launch} {x : gw_C} {d : Nat} {S : gw_S} {Q : Option Value → gw_S → gw_M → Prop} {v1 : Int32} {a0 : Nat} {n0 : Nat} {μ : gw_M} {r μ'} (hS0 : gw_sh S 10 a0) (h : F_X10_aliases n0 a0 v1 μ = some (r, μ')) (hq : Q (some (.int r)) S μ') : gw_ok l x (d + 4) sgX10_aliases 0 0 [.ref a0, .int v1] S μ Q := by
  refine gw_ok_of stX10_aliases (lv0 := [.ref a0, .int v1]) (Nat.le_of_ble_eq_true rfl) rfl rfl ?_
  intro K hK
  have ka0_0 : gw_kd S a0 = 10 := (hS0 0 _ rfl).1
  have ra0_0_0 : gw_rf S a0 0 = a0 + 1 := (hS0 0 _ rfl).2.2 (0, 1) (by decide)
  have ka0_1 : gw_kd S (a0 + 1) = 3 := (hS0 1 _ rfl).1
  unfold F_X10_aliases at h
  refine hK _ _ _ _ _ _ _ ?_
  rw [fdX10_aliases_0]
  simp only [gt_nil, true_and, eq_self, gt_iload_n, gt_ink, gw_nth, gt_s1_0, gt_s2_0, gt_s3_0, gt_s4_0, gt_s1_1, gt_s2_1, gt_s3_1, gt_s4_1, gt_acpy, gt_if, gt_aload_n, gt_rfk, gt_get_r, gt_get_i, gt_get_z, gt_v0, gt_v1, gt_v2, gt_v3, gt_v4, gt_v5, gt_goto, bkX10_aliases_0, ka0_0, ra0_0_0, ka0_1]
  obtain ⟨⟨r_1, μ_2⟩, e_3, h⟩ := gw_bnd h
  refine ⟨rfl, 0, 0, Nat.le_refl _, Nat.le_refl _, ok_X10_isFrame e_3 ?_⟩
  intro hbr_1
  dsimp only at h
  simp only [gt_nil, true_and, eq_self, gt_if, gt_aload_n, gt_rfk, gw_nth, gt_get_r, gt_get_i, gt_get_z, gt_iload_n, gt_ink, gt_v0, gt_v1, gt_v2, gt_v3, gt_v4, gt_v5, gt_goto, Option.toList, List.cons_append, List.nil_append, Nat.add_zero, ka0_0, ra0_0_0, ka0_1]
  refine ⟨fun c_5 => ?_, fun c_5 => ?_⟩
  · replace h := gw_ifp h c_5
    refine hK _ _ _ _ _ _ _ ?_
    rw [fdX10_aliases_18]
    simp only [gt_nil, true_and, eq_self, gt_iconst, bkX10_aliases_18, ka0_0, ra0_0_0, ka0_1]
    refine hK _ _ _ _ _ _ _ ?_
    rw [fdX10_aliases_19]
    simp only [gt_nil, true_and, eq_self, gt_iret, gt_retz, bkX10_aliases_19, ka0_0, ra0_0_0, ka0_1]
    cases h
    exact ⟨Nat.le_refl _, Nat.le_refl _, hq⟩
  · replace h := gw_ifn h c_5
    obtain ⟨⟨r_6, μ_7⟩, e_8, h⟩ := gw_bnd h
    refine ⟨rfl, 0, 0, Nat.le_refl _, Nat.le_refl _, ok_X3_virtualPagesAt (gw_sub hS0 3 1 (by decide +kernel)) e_8 ?_⟩
    dsimp only at h
    simp only [gt_nil, true_and, eq_self, gt_goto, Option.toList, List.cons_append, List.nil_append, Nat.add_zero, ka0_0, ra0_0_0, ka0_1]
    refine hK _ _ _ _ _ _ _ ?_
    rw [fdX10_aliases_19]
    simp only [gt_nil, true_and, eq_self, gt_iret, gt_retz, bkX10_aliases_19, ka0_0, ra0_0_0, ka0_1]
    cases h
    exact ⟨Nat.le_refl _, Nat.le_refl _, hq⟩
def F_X10_free (n0 : Nat) (a0 : Nat) (μ : gw_M) : Option (Int32 × gw_M) := (F_X4_framesLedTo n0 (a0 + 2) μ).bind (fun (z_4 : Int32 × gw_M) => (F_X10_lowestOutside n0 z_4.1 z_4.2).bind (fun (z_8 : Int32 × gw_M) => some (z_8.1, z_8.2)))
theorem ok_X10_free {l : Launch} {x : gw_C} {d : Nat} {S : gw_S} {Q : Option Value → gw_S → gw_M → Prop} {a0 : Nat} {n0 : Nat} {μ : gw_M} {r μ'} (hS0 : gw_sh S 10 a0) (h : F_X10_free n0 a0 μ = some (r, μ')) (hq : Q (some (.int r)) S μ') : gw_ok l x (d + 2) sgX10_free 0 0 [.ref a0] S μ Q := by
  refine gw_ok_of stX10_free (lv0 := [.ref a0]) (Nat.le_of_ble_eq_true rfl) rfl rfl ?_
  intro K hK
  have ka0_0 : gw_kd S a0 = 10 := (hS0 0 _ rfl).1
  have ra0_0_0 : gw_rf S a0 0 = a0 + 1 := (hS0 0 _ rfl).2.2 (0, 1) (by decide)
  have ka0_1 : gw_kd S (a0 + 1) = 3 := (hS0 1 _ rfl).1
  have ra0_1_0 : gw_rf S (a0 + 1) 0 = a0 + 2 := (hS0 1 _ rfl).2.2 (0, 2) (by decide)
  have ka0_2 : gw_kd S (a0 + 2) = 4 := (hS0 2 _ rfl).1
  unfold F_X10_free at h
  refine hK _ _ _ _ _ _ _ ?_
  rw [fdX10_free_0]
  simp only [gt_nil, true_and, eq_self, gt_aload_n, gt_rfk, gw_nth, gt_get_r, gt_get_i, gt_get_z, gt_v0, gt_v1, gt_v2, gt_v3, gt_v4, gt_v5, gt_s1_0, gt_s2_0, gt_s3_0, gt_s4_0, gt_s1_1, gt_s2_1, gt_s3_1, gt_s4_1, gt_acpy, gt_iret, gt_retz, bkX10_free_0, ka0_0, ra0_0_0, ka0_1, ra0_1_0, ka0_2]
  obtain ⟨⟨r_1, μ_2⟩, e_3, h⟩ := gw_bnd h
  refine ⟨rfl, 0, 0, Nat.le_refl _, Nat.le_refl _, ok_X4_framesLedTo (gw_sub hS0 4 2 (by decide +kernel)) e_3 ?_⟩
  dsimp only at h
  simp only [gt_nil, true_and, eq_self, gt_s1_0, gt_s2_0, gt_s3_0, gt_s4_0, gt_s1_1, gt_s2_1, gt_s3_1, gt_s4_1, gt_acpy, gt_iret, gt_retz, Option.toList, List.cons_append, List.nil_append, Nat.add_zero, ka0_0, ra0_0_0, ka0_1, ra0_1_0, ka0_2]
  obtain ⟨⟨r_5, μ_6⟩, e_7, h⟩ := gw_bnd h
  refine ⟨rfl, 0, 0, Nat.le_refl _, Nat.le_refl _, ok_X10_lowestOutside e_7 ?_⟩
  dsimp only at h
  simp only [gt_nil, true_and, eq_self, gt_iret, gt_retz, Option.toList, List.cons_append, List.nil_append, Nat.add_zero, ka0_0, ra0_0_0, ka0_1, ra0_1_0, ka0_2]
  cases h
  exact ⟨Nat.le_refl _, Nat.le_refl _, hq⟩
def F_X10_wanted (n0 : Nat) (a0 : Nat) (v1 : Int32) (μ : gw_M) : Option (Int32 × gw_M) := (if v1 = (0 : Int32) then some ((μ (a0 + 20) 0), μ) else (if v1 = ((0 : Int32) + 1) then some ((μ (a0 + 20) 1), μ) else (if v1 = (((0 : Int32) + 1) + 1) then some (((μ (a0 + 20) 0) ||| (μ (a0 + 20) 1)), μ) else some ((-1), μ))))
theorem ok_X10_wanted {l : Launch} {x : gw_C} {d : Nat} {S : gw_S} {Q : Option Value → gw_S → gw_M → Prop} {v1 : Int32} {a0 : Nat} {n0 : Nat} {μ : gw_M} {r μ'} (hS0 : gw_sh S 10 a0) (h : F_X10_wanted n0 a0 v1 μ = some (r, μ')) (hq : Q (some (.int r)) S μ') : gw_ok l x (d + 1) sgX10_wanted 0 0 [.ref a0, .int v1] S μ Q := by
  refine gw_ok_of stX10_wanted (lv0 := [.ref a0, .int v1]) (Nat.le_of_ble_eq_true rfl) rfl rfl ?_
  intro K hK
  have ka0_0 : gw_kd S a0 = 10 := (hS0 0 _ rfl).1
  have ra0_0_0 : gw_rf S a0 0 = a0 + 1 := (hS0 0 _ rfl).2.2 (0, 1) (by decide)
  have ka0_1 : gw_kd S (a0 + 1) = 3 := (hS0 1 _ rfl).1
  have ra0_1_8 : gw_rf S (a0 + 1) 8 = a0 + 20 := (hS0 1 _ rfl).2.2 (8, 20) (by decide)
  have ka0_20 : gw_kd S (a0 + 20) = 12 := (hS0 20 _ rfl).1
  have la0_20 : gw_ln S (a0 + 20) = 2 := (hS0 20 _ rfl).2.1
  unfold F_X10_wanted at h
  refine hK _ _ _ _ _ _ _ ?_
  rw [fdX10_wanted_0]
  simp only [gt_nil, true_and, eq_self, gt_iload_n, gt_ink, gw_nth, gt_tsw, gw_sw, bkX10_wanted_0, ka0_0, ra0_0_0, ka0_1, ra0_1_8, ka0_20, la0_20, (show Int32.toNatClampNeg 0 = 0 from rfl), (show Int32.toNatClampNeg 1 = 1 from rfl)]
  refine ⟨fun c_1 => ?_, fun c_1 => ?_⟩
  · replace h := gw_ifp h c_1
    refine hK _ _ _ _ _ _ _ ?_
    rw [fdX10_wanted_28]
    simp only [gt_nil, true_and, eq_self, gt_aload_n, gt_rfk, gw_nth, gt_get_r, gt_get_i, gt_get_z, gt_iconst, gt_iaload, gt_iret, gt_retz, bkX10_wanted_28, ka0_0, ra0_0_0, ka0_1, ra0_1_8, ka0_20, la0_20, (show Int32.toNatClampNeg 0 = 0 from rfl), (show Int32.toNatClampNeg 1 = 1 from rfl)]
    refine ⟨(⟨by decide, by decide⟩ : gw_in 0 2), ?_⟩
    cases h
    exact ⟨Nat.le_refl _, Nat.le_refl _, hq⟩
  replace h := gw_ifn h c_1
  refine ⟨fun c_2 => ?_, fun c_2 => ?_⟩
  · replace h := gw_ifp h c_2
    refine hK _ _ _ _ _ _ _ ?_
    rw [fdX10_wanted_38]
    simp only [gt_nil, true_and, eq_self, gt_aload_n, gt_rfk, gw_nth, gt_get_r, gt_get_i, gt_get_z, gt_iconst, gt_iaload, gt_iret, gt_retz, bkX10_wanted_38, ka0_0, ra0_0_0, ka0_1, ra0_1_8, ka0_20, la0_20, (show Int32.toNatClampNeg 0 = 0 from rfl), (show Int32.toNatClampNeg 1 = 1 from rfl)]
    refine ⟨(⟨by decide, by decide⟩ : gw_in 1 2), ?_⟩
    cases h
    exact ⟨Nat.le_refl _, Nat.le_refl _, hq⟩
  replace h := gw_ifn h c_2
  refine ⟨fun c_3 => ?_, fun c_3 => ?_⟩
  · replace h := gw_ifp h c_3
    refine hK _ _ _ _ _ _ _ ?_
    rw [fdX10_wanted_48]
    simp only [gt_nil, true_and, eq_self, gt_aload_n, gt_rfk, gw_nth, gt_get_r, gt_get_i, gt_get_z, gt_iconst, gt_iaload, gt_ior, gt_iret, gt_retz, bkX10_wanted_48, ka0_0, ra0_0_0, ka0_1, ra0_1_8, ka0_20, la0_20, (show Int32.toNatClampNeg 0 = 0 from rfl), (show Int32.toNatClampNeg 1 = 1 from rfl)]
    refine ⟨(⟨by decide, by decide⟩ : gw_in 0 2), ?_⟩
    refine ⟨(⟨by decide, by decide⟩ : gw_in 1 2), ?_⟩
    cases h
    exact ⟨Nat.le_refl _, Nat.le_refl _, hq⟩
  replace h := gw_ifn h c_3
  refine hK _ _ _ _ _ _ _ ?_
  rw [fdX10_wanted_68]
  simp only [gt_nil, true_and, eq_self, gt_iconst, gt_iret, gt_retz, bkX10_wanted_68, ka0_0, ra0_0_0, ka0_1, ra0_1_8, ka0_20, la0_20, (show Int32.toNatClampNeg 0 = 0 from rfl), (show Int32.toNatClampNeg 1 = 1 from rfl)]
  cases h
  exact ⟨Nat.le_refl _, Nat.le_refl _, hq⟩
def F_X10_whose (n0 : Nat) (a0 : Nat) (v1 : Int32) (μ : gw_M) : Option (Int32 × gw_M) := (F_X10_isEvent n0 v1 μ).bind (fun (z_4 : Int32 × gw_M) => (if z_4.1 = 0 then some ((-1), z_4.2) else (F_X3_seerOfInner n0 (a0 + 1) v1 z_4.2).bind (fun (z_9 : Int32 × gw_M) => some (z_9.1, z_9.2))))
theorem ok_X10_whose {l : Launch} {x : gw_C} {d : Nat} {S : gw_S} {Q : Option Value → gw_S → gw_M → Prop} {v1 : Int32} {a0 : Nat} {n0 : Nat} {μ : gw_M} {r μ'} (hS0 : gw_sh S 10 a0) (h : F_X10_whose n0 a0 v1 μ = some (r, μ')) (hq : Q (some (.int r)) S μ') : gw_ok l x (d + 3) sgX10_whose 0 0 [.ref a0, .int v1] S μ Q := by
  refine gw_ok_of stX10_whose (lv0 := [.ref a0, .int v1]) (Nat.le_of_ble_eq_true rfl) rfl rfl ?_
  intro K hK
  have ka0_0 : gw_kd S a0 = 10 := (hS0 0 _ rfl).1
  have ra0_0_0 : gw_rf S a0 0 = a0 + 1 := (hS0 0 _ rfl).2.2 (0, 1) (by decide)
  have ka0_1 : gw_kd S (a0 + 1) = 3 := (hS0 1 _ rfl).1
  unfold F_X10_whose at h
  refine hK _ _ _ _ _ _ _ ?_
  rw [fdX10_whose_0]
  simp only [gt_nil, true_and, eq_self, gt_iload_n, gt_ink, gw_nth, gt_s1_0, gt_s2_0, gt_s3_0, gt_s4_0, gt_s1_1, gt_s2_1, gt_s3_1, gt_s4_1, gt_acpy, gt_if, gt_aload_n, gt_rfk, gt_get_r, gt_get_i, gt_get_z, gt_v0, gt_v1, gt_v2, gt_v3, gt_v4, gt_v5, gt_goto, bkX10_whose_0, ka0_0, ra0_0_0, ka0_1]
  obtain ⟨⟨r_1, μ_2⟩, e_3, h⟩ := gw_bnd h
  refine ⟨rfl, 0, 0, Nat.le_refl _, Nat.le_refl _, ok_X10_isEvent e_3 ?_⟩
  intro hbr_1
  dsimp only at h
  simp only [gt_nil, true_and, eq_self, gt_if, gt_aload_n, gt_rfk, gw_nth, gt_get_r, gt_get_i, gt_get_z, gt_iload_n, gt_ink, gt_v0, gt_v1, gt_v2, gt_v3, gt_v4, gt_v5, gt_goto, Option.toList, List.cons_append, List.nil_append, Nat.add_zero, ka0_0, ra0_0_0, ka0_1]
  refine ⟨fun c_5 => ?_, fun c_5 => ?_⟩
  · replace h := gw_ifp h c_5
    refine hK _ _ _ _ _ _ _ ?_
    rw [fdX10_whose_18]
    simp only [gt_nil, true_and, eq_self, gt_iconst, bkX10_whose_18, ka0_0, ra0_0_0, ka0_1]
    refine hK _ _ _ _ _ _ _ ?_
    rw [fdX10_whose_19]
    simp only [gt_nil, true_and, eq_self, gt_iret, gt_retz, bkX10_whose_19, ka0_0, ra0_0_0, ka0_1]
    cases h
    exact ⟨Nat.le_refl _, Nat.le_refl _, hq⟩
  · replace h := gw_ifn h c_5
    obtain ⟨⟨r_6, μ_7⟩, e_8, h⟩ := gw_bnd h
    refine ⟨rfl, 0, 0, Nat.le_refl _, Nat.le_refl _, ok_X3_seerOfInner (gw_sub hS0 3 1 (by decide +kernel)) e_8 ?_⟩
    dsimp only at h
    simp only [gt_nil, true_and, eq_self, gt_goto, Option.toList, List.cons_append, List.nil_append, Nat.add_zero, ka0_0, ra0_0_0, ka0_1]
    refine hK _ _ _ _ _ _ _ ?_
    rw [fdX10_whose_19]
    simp only [gt_nil, true_and, eq_self, gt_iret, gt_retz, bkX10_whose_19, ka0_0, ra0_0_0, ka0_1]
    cases h
    exact ⟨Nat.le_refl _, Nat.le_refl _, hq⟩
def F_X10_exit (n0 : Nat) (a0 : Nat) (v1 : Int32) (v2 : Int32) (μ : gw_M) : Option (Int32 × gw_M) := (if ¬ v1 = (-1) then (F_X2_exitAt n0 (a0 + 26) v1 v2 μ).bind (fun (z_5 : Int32 × gw_M) => some (z_5.1, z_5.2)) else (F_X2_exitsKept n0 (a0 + 26) μ).bind (fun (z_9 : Int32 × gw_M) => some (z_9.1, z_9.2)))
theorem ok_X10_exit {l : Launch} {x : gw_C} {d : Nat} {S : gw_S} {Q : Option Value → gw_S → gw_M → Prop} {v1 v2 : Int32} {a0 : Nat} {n0 : Nat} {μ : gw_M} {r μ'} (hS0 : gw_sh S 10 a0) (h : F_X10_exit n0 a0 v1 v2 μ = some (r, μ')) (hq : Q (some (.int r)) S μ') : gw_ok l x (d + 4) sgX10_exit 0 0 [.ref a0, .int v1, .int v2] S μ Q := by
  refine gw_ok_of stX10_exit (lv0 := [.ref a0, .int v1, .int v2]) (Nat.le_of_ble_eq_true rfl) rfl rfl ?_
  intro K hK
  have ka0_0 : gw_kd S a0 = 10 := (hS0 0 _ rfl).1
  have ra0_0_0 : gw_rf S a0 0 = a0 + 1 := (hS0 0 _ rfl).2.2 (0, 1) (by decide)
  have ka0_1 : gw_kd S (a0 + 1) = 3 := (hS0 1 _ rfl).1
  have ra0_1_14 : gw_rf S (a0 + 1) 14 = a0 + 26 := (hS0 1 _ rfl).2.2 (14, 26) (by decide)
  have ka0_26 : gw_kd S (a0 + 26) = 2 := (hS0 26 _ rfl).1
  unfold F_X10_exit at h
  refine hK _ _ _ _ _ _ _ ?_
  rw [fdX10_exit_0]
  simp only [gt_nil, true_and, eq_self, gt_iload_n, gt_ink, gw_nth, gt_iconst, gt_icmp, gt_aload_n, gt_rfk, gt_get_r, gt_get_i, gt_get_z, gt_v0, gt_v1, gt_v2, gt_v3, gt_v4, gt_v5, gt_goto, bkX10_exit_0, ka0_0, ra0_0_0, ka0_1, ra0_1_14, ka0_26]
  refine ⟨fun c_1 => ?_, fun c_1 => ?_⟩
  · replace h := gw_ifp h c_1
    refine hK _ _ _ _ _ _ _ ?_
    rw [fdX10_exit_18]
    simp only [gt_nil, true_and, eq_self, gt_aload_n, gt_rfk, gw_nth, gt_get_r, gt_get_i, gt_get_z, gt_iload_n, gt_ink, gt_v0, gt_v1, gt_v2, gt_v3, gt_v4, gt_v5, bkX10_exit_18, ka0_0, ra0_0_0, ka0_1, ra0_1_14, ka0_26]
    obtain ⟨⟨r_2, μ_3⟩, e_4, h⟩ := gw_bnd h
    refine ⟨rfl, 0, 0, Nat.le_refl _, Nat.le_refl _, ok_X2_exitAt (gw_sub hS0 2 26 (by decide +kernel)) e_4 ?_⟩
    dsimp only at h
    simp only [gt_nil, true_and, eq_self, Option.toList, List.cons_append, List.nil_append, Nat.add_zero, ka0_0, ra0_0_0, ka0_1, ra0_1_14, ka0_26]
    refine hK _ _ _ _ _ _ _ ?_
    rw [fdX10_exit_30]
    simp only [gt_nil, true_and, eq_self, gt_iret, gt_retz, bkX10_exit_30, ka0_0, ra0_0_0, ka0_1, ra0_1_14, ka0_26]
    cases h
    exact ⟨Nat.le_refl _, Nat.le_refl _, hq⟩
  · replace h := gw_ifn h c_1
    obtain ⟨⟨r_6, μ_7⟩, e_8, h⟩ := gw_bnd h
    refine ⟨rfl, 0, 0, Nat.le_refl _, Nat.le_refl _, ok_X2_exitsKept (gw_sub hS0 2 26 (by decide +kernel)) e_8 ?_⟩
    dsimp only at h
    simp only [gt_nil, true_and, eq_self, gt_goto, Option.toList, List.cons_append, List.nil_append, Nat.add_zero, ka0_0, ra0_0_0, ka0_1, ra0_1_14, ka0_26]
    refine hK _ _ _ _ _ _ _ ?_
    rw [fdX10_exit_30]
    simp only [gt_nil, true_and, eq_self, gt_iret, gt_retz, bkX10_exit_30, ka0_0, ra0_0_0, ka0_1, ra0_1_14, ka0_26]
    cases h
    exact ⟨Nat.le_refl _, Nat.le_refl _, hq⟩
def F_X10_exits (n0 : Nat) (a0 : Nat) (v1 : Int32) (μ : gw_M) : Option (Int32 × gw_M) := (F_X2_exitsBy n0 (a0 + 26) v1 μ).bind (fun (z_4 : Int32 × gw_M) => some (z_4.1, z_4.2))
theorem ok_X10_exits {l : Launch} {x : gw_C} {d : Nat} {S : gw_S} {Q : Option Value → gw_S → gw_M → Prop} {v1 : Int32} {a0 : Nat} {n0 : Nat} {μ : gw_M} {r μ'} (hS0 : gw_sh S 10 a0) (h : F_X10_exits n0 a0 v1 μ = some (r, μ')) (hq : Q (some (.int r)) S μ') : gw_ok l x (d + 4) sgX10_exits 0 0 [.ref a0, .int v1] S μ Q := by
  refine gw_ok_of stX10_exits (lv0 := [.ref a0, .int v1]) (Nat.le_of_ble_eq_true rfl) rfl rfl ?_
  intro K hK
  have ka0_0 : gw_kd S a0 = 10 := (hS0 0 _ rfl).1
  have ra0_0_0 : gw_rf S a0 0 = a0 + 1 := (hS0 0 _ rfl).2.2 (0, 1) (by decide)
  have ka0_1 : gw_kd S (a0 + 1) = 3 := (hS0 1 _ rfl).1
  have ra0_1_14 : gw_rf S (a0 + 1) 14 = a0 + 26 := (hS0 1 _ rfl).2.2 (14, 26) (by decide)
  have ka0_26 : gw_kd S (a0 + 26) = 2 := (hS0 26 _ rfl).1
  unfold F_X10_exits at h
  refine hK _ _ _ _ _ _ _ ?_
  rw [fdX10_exits_0]
  simp only [gt_nil, true_and, eq_self, gt_aload_n, gt_rfk, gw_nth, gt_get_r, gt_get_i, gt_get_z, gt_iload_n, gt_ink, gt_v0, gt_v1, gt_v2, gt_v3, gt_v4, gt_v5, gt_iret, gt_retz, bkX10_exits_0, ka0_0, ra0_0_0, ka0_1, ra0_1_14, ka0_26]
  obtain ⟨⟨r_1, μ_2⟩, e_3, h⟩ := gw_bnd h
  refine ⟨rfl, 0, 0, Nat.le_refl _, Nat.le_refl _, ok_X2_exitsBy (gw_sub hS0 2 26 (by decide +kernel)) e_3 ?_⟩
  dsimp only at h
  simp only [gt_nil, true_and, eq_self, gt_iret, gt_retz, Option.toList, List.cons_append, List.nil_append, Nat.add_zero, ka0_0, ra0_0_0, ka0_1, ra0_1_14, ka0_26]
  cases h
  exact ⟨Nat.le_refl _, Nat.le_refl _, hq⟩
def F_X10_pending (n0 : Nat) (a0 : Nat) (v1 : Int32) (μ : gw_M) : Option (Int32 × gw_M) := (F_X10_isGuest n0 v1 μ).bind (fun (z_4 : Int32 × gw_M) => (if z_4.1 = 0 then some ((-1), z_4.2) else (F_X3_guest n0 (a0 + 1) v1 z_4.2).bind (fun (z_9 : Nat × gw_M) => some ((z_9.2 z_9.1 2), z_9.2))))
theorem ok_X10_pending {l : Launch} {x : gw_C} {d : Nat} {S : gw_S} {Q : Option Value → gw_S → gw_M → Prop} {v1 : Int32} {a0 : Nat} {n0 : Nat} {μ : gw_M} {r μ'} (hS0 : gw_sh S 10 a0) (h : F_X10_pending n0 a0 v1 μ = some (r, μ')) (hq : Q (some (.int r)) S μ') : gw_ok l x (d + 2) sgX10_pending 0 0 [.ref a0, .int v1] S μ Q := by
  refine gw_ok_of stX10_pending (lv0 := [.ref a0, .int v1]) (Nat.le_of_ble_eq_true rfl) rfl rfl ?_
  intro K hK
  have ka0_0 : gw_kd S a0 = 10 := (hS0 0 _ rfl).1
  have ra0_0_0 : gw_rf S a0 0 = a0 + 1 := (hS0 0 _ rfl).2.2 (0, 1) (by decide)
  have ka0_1 : gw_kd S (a0 + 1) = 3 := (hS0 1 _ rfl).1
  unfold F_X10_pending at h
  refine hK _ _ _ _ _ _ _ ?_
  rw [fdX10_pending_0]
  simp only [gt_nil, true_and, eq_self, gt_iload_n, gt_ink, gw_nth, gt_s1_0, gt_s2_0, gt_s3_0, gt_s4_0, gt_s1_1, gt_s2_1, gt_s3_1, gt_s4_1, gt_acpy, gt_if, gt_aload_n, gt_rfk, gt_get_r, gt_get_i, gt_get_z, gt_v0, gt_v1, gt_v2, gt_v3, gt_v4, gt_v5, gt_goto, bkX10_pending_0, ka0_0, ra0_0_0, ka0_1]
  obtain ⟨⟨r_1, μ_2⟩, e_3, h⟩ := gw_bnd h
  refine ⟨rfl, 0, 0, Nat.le_refl _, Nat.le_refl _, ok_X10_isGuest e_3 ?_⟩
  intro hbr_1
  dsimp only at h
  simp only [gt_nil, true_and, eq_self, gt_if, gt_aload_n, gt_rfk, gw_nth, gt_get_r, gt_get_i, gt_get_z, gt_iload_n, gt_ink, gt_v0, gt_v1, gt_v2, gt_v3, gt_v4, gt_v5, gt_goto, Option.toList, List.cons_append, List.nil_append, Nat.add_zero, ka0_0, ra0_0_0, ka0_1]
  refine ⟨fun c_5 => ?_, fun c_5 => ?_⟩
  · replace h := gw_ifp h c_5
    refine hK _ _ _ _ _ _ _ ?_
    rw [fdX10_pending_21]
    simp only [gt_nil, true_and, eq_self, gt_iconst, bkX10_pending_21, ka0_0, ra0_0_0, ka0_1]
    refine hK _ _ _ _ _ _ _ ?_
    rw [fdX10_pending_22]
    simp only [gt_nil, true_and, eq_self, gt_iret, gt_retz, bkX10_pending_22, ka0_0, ra0_0_0, ka0_1]
    cases h
    exact ⟨Nat.le_refl _, Nat.le_refl _, hq⟩
  · replace h := gw_ifn h c_5
    obtain ⟨⟨r_6, μ_7⟩, e_8, h⟩ := gw_bnd h
    refine ⟨rfl, 0, 0, Nat.le_refl _, Nat.le_refl _, ok_X3_guest (gw_sub hS0 3 1 (by decide +kernel)) e_8 ?_⟩
    intro hsr_6
    have kr_6_0 : gw_kd S r_6 = 0 := (hsr_6 0 _ rfl).1
    dsimp only at h
    simp only [gt_nil, true_and, eq_self, gt_get_r, gt_get_i, gt_get_z, gt_goto, Option.toList, List.cons_append, List.nil_append, Nat.add_zero, ka0_0, ra0_0_0, ka0_1, kr_6_0]
    refine hK _ _ _ _ _ _ _ ?_
    rw [fdX10_pending_22]
    simp only [gt_nil, true_and, eq_self, gt_iret, gt_retz, bkX10_pending_22, ka0_0, ra0_0_0, ka0_1, kr_6_0]
    cases h
    exact ⟨Nat.le_refl _, Nat.le_refl _, hq⟩
def F_X10_service (n0 : Nat) (a0 : Nat) (v1 : Int32) (μ : gw_M) : Option (Int32 × gw_M) := (F_X10_isGuest n0 v1 μ).bind (fun (z_4 : Int32 × gw_M) => (if z_4.1 = 0 then some ((-1), z_4.2) else (F_X3_guest n0 (a0 + 1) v1 z_4.2).bind (fun (z_9 : Nat × gw_M) => some ((z_9.2 z_9.1 3), z_9.2))))
theorem ok_X10_service {l : Launch} {x : gw_C} {d : Nat} {S : gw_S} {Q : Option Value → gw_S → gw_M → Prop} {v1 : Int32} {a0 : Nat} {n0 : Nat} {μ : gw_M} {r μ'} (hS0 : gw_sh S 10 a0) (h : F_X10_service n0 a0 v1 μ = some (r, μ')) (hq : Q (some (.int r)) S μ') : gw_ok l x (d + 2) sgX10_service 0 0 [.ref a0, .int v1] S μ Q := by
  refine gw_ok_of stX10_service (lv0 := [.ref a0, .int v1]) (Nat.le_of_ble_eq_true rfl) rfl rfl ?_
  intro K hK
  have ka0_0 : gw_kd S a0 = 10 := (hS0 0 _ rfl).1
  have ra0_0_0 : gw_rf S a0 0 = a0 + 1 := (hS0 0 _ rfl).2.2 (0, 1) (by decide)
  have ka0_1 : gw_kd S (a0 + 1) = 3 := (hS0 1 _ rfl).1
  unfold F_X10_service at h
  refine hK _ _ _ _ _ _ _ ?_
  rw [fdX10_service_0]
  simp only [gt_nil, true_and, eq_self, gt_iload_n, gt_ink, gw_nth, gt_s1_0, gt_s2_0, gt_s3_0, gt_s4_0, gt_s1_1, gt_s2_1, gt_s3_1, gt_s4_1, gt_acpy, gt_if, gt_aload_n, gt_rfk, gt_get_r, gt_get_i, gt_get_z, gt_v0, gt_v1, gt_v2, gt_v3, gt_v4, gt_v5, gt_goto, bkX10_service_0, ka0_0, ra0_0_0, ka0_1]
  obtain ⟨⟨r_1, μ_2⟩, e_3, h⟩ := gw_bnd h
  refine ⟨rfl, 0, 0, Nat.le_refl _, Nat.le_refl _, ok_X10_isGuest e_3 ?_⟩
  intro hbr_1
  dsimp only at h
  simp only [gt_nil, true_and, eq_self, gt_if, gt_aload_n, gt_rfk, gw_nth, gt_get_r, gt_get_i, gt_get_z, gt_iload_n, gt_ink, gt_v0, gt_v1, gt_v2, gt_v3, gt_v4, gt_v5, gt_goto, Option.toList, List.cons_append, List.nil_append, Nat.add_zero, ka0_0, ra0_0_0, ka0_1]
  refine ⟨fun c_5 => ?_, fun c_5 => ?_⟩
  · replace h := gw_ifp h c_5
    refine hK _ _ _ _ _ _ _ ?_
    rw [fdX10_service_21]
    simp only [gt_nil, true_and, eq_self, gt_iconst, bkX10_service_21, ka0_0, ra0_0_0, ka0_1]
    refine hK _ _ _ _ _ _ _ ?_
    rw [fdX10_service_22]
    simp only [gt_nil, true_and, eq_self, gt_iret, gt_retz, bkX10_service_22, ka0_0, ra0_0_0, ka0_1]
    cases h
    exact ⟨Nat.le_refl _, Nat.le_refl _, hq⟩
  · replace h := gw_ifn h c_5
    obtain ⟨⟨r_6, μ_7⟩, e_8, h⟩ := gw_bnd h
    refine ⟨rfl, 0, 0, Nat.le_refl _, Nat.le_refl _, ok_X3_guest (gw_sub hS0 3 1 (by decide +kernel)) e_8 ?_⟩
    intro hsr_6
    have kr_6_0 : gw_kd S r_6 = 0 := (hsr_6 0 _ rfl).1
    dsimp only at h
    simp only [gt_nil, true_and, eq_self, gt_get_r, gt_get_i, gt_get_z, gt_goto, Option.toList, List.cons_append, List.nil_append, Nat.add_zero, ka0_0, ra0_0_0, ka0_1, kr_6_0]
    refine hK _ _ _ _ _ _ _ ?_
    rw [fdX10_service_22]
    simp only [gt_nil, true_and, eq_self, gt_iret, gt_retz, bkX10_service_22, ka0_0, ra0_0_0, ka0_1, kr_6_0]
    cases h
    exact ⟨Nat.le_refl _, Nat.le_refl _, hq⟩
def F_X10_putBy (n0 : Nat) (a0 : Nat) (v1 : Int32) (v2 : Int32) (μ : gw_M) : Option (Int32 × gw_M) := (F_X10_isInnerGuest n0 v1 μ).bind (fun (z_4 : Int32 × gw_M) => (if z_4.1 = 0 then some ((-1), z_4.2) else (if ¬ v1 = (z_4.2 (a0 + 1) 5) then (if 0 ≤ v1 ∧ v1.toNatClampNeg < 3 then gw_let (a0 + 38 + 15 * v1.toNatClampNeg) (fun (q_8 : Nat) => (if v2 = (0 : Int32) then (F_X8_size n0 (q_8 + 7) z_4.2).bind (fun (z_13 : Int32 × gw_M) => some (z_13.1, z_13.2)) else (if v2 = ((0 : Int32) + 1) then (F_X8_size n0 (q_8 + 11) z_4.2).bind (fun (z_18 : Int32 × gw_M) => some (z_18.1, z_18.2)) else (if v2 = (((0 : Int32) + 1) + 1) then some ((z_4.2 (q_8 + 2) 4), z_4.2) else (if v2 = ((((0 : Int32) + 1) + 1) + 1) then some ((z_4.2 (q_8 + 1) 2), z_4.2) else (if v2 = (((((0 : Int32) + 1) + 1) + 1) + 1) then some ((z_4.2 (q_8 + 1) 3), z_4.2) else (if v2 = ((((((0 : Int32) + 1) + 1) + 1) + 1) + 1) then (if (z_4.2 (q_8 + 1) 4) = 0 then some (0, z_4.2) else some (1, z_4.2)) else (if v2 = (((((((0 : Int32) + 1) + 1) + 1) + 1) + 1) + 1) then some ((z_4.2 (q_8 + 2) 3), z_4.2) else some ((-1), z_4.2))))))))) else none) else some ((-1), z_4.2))))
theorem ok_X10_putBy {l : Launch} {x : gw_C} {d : Nat} {S : gw_S} {Q : Option Value → gw_S → gw_M → Prop} {v1 v2 : Int32} {a0 : Nat} {n0 : Nat} {μ : gw_M} {r μ'} (hS0 : gw_sh S 10 a0) (h : F_X10_putBy n0 a0 v1 v2 μ = some (r, μ')) (hq : Q (some (.int r)) S μ') : gw_ok l x (d + 3) sgX10_putBy 0 0 [.ref a0, .int v1, .int v2] S μ Q := by
  refine gw_ok_of stX10_putBy (lv0 := [.ref a0, .int v1, .int v2, .retAddr 0]) (Nat.le_of_ble_eq_true rfl) rfl rfl ?_
  intro K hK
  have ka0_0 : gw_kd S a0 = 10 := (hS0 0 _ rfl).1
  have ra0_0_0 : gw_rf S a0 0 = a0 + 1 := (hS0 0 _ rfl).2.2 (0, 1) (by decide)
  have ka0_1 : gw_kd S (a0 + 1) = 3 := (hS0 1 _ rfl).1
  have ra0_1_4 : gw_rf S (a0 + 1) 4 = a0 + 19 := (hS0 1 _ rfl).2.2 (4, 19) (by decide)
  have ka0_19 : gw_kd S (a0 + 19) = 13 := (hS0 19 _ rfl).1
  have la0_19 : gw_ln S (a0 + 19) = 3 := (hS0 19 _ rfl).2.1
  unfold F_X10_putBy at h
  refine hK _ _ _ _ _ _ _ ?_
  rw [fdX10_putBy_0]
  simp only [gt_nil, true_and, eq_self, gt_iload_n, gt_ink, gw_nth, gt_s1_0, gt_s2_0, gt_s3_0, gt_s4_0, gt_s1_1, gt_s2_1, gt_s3_1, gt_s4_1, gt_acpy, gt_if, gt_aload_n, gt_rfk, gt_get_r, gt_get_i, gt_get_z, gt_icmp, bkX10_putBy_0, ka0_0, ra0_0_0, ka0_1, ra0_1_4, ka0_19, la0_19]
  obtain ⟨⟨r_1, μ_2⟩, e_3, h⟩ := gw_bnd h
  refine ⟨rfl, 0, 0, Nat.le_refl _, Nat.le_refl _, ok_X10_isInnerGuest e_3 ?_⟩
  intro hbr_1
  dsimp only at h
  simp only [gt_nil, true_and, eq_self, gt_if, gt_iload_n, gt_ink, gw_nth, gt_aload_n, gt_rfk, gt_get_r, gt_get_i, gt_get_z, gt_icmp, Option.toList, List.cons_append, List.nil_append, Nat.add_zero, ka0_0, ra0_0_0, ka0_1, ra0_1_4, ka0_19, la0_19]
  refine ⟨fun c_5 => ?_, fun c_5 => ?_⟩
  · replace h := gw_ifp h c_5
    refine hK _ _ _ _ _ _ _ ?_
    rw [fdX10_putBy_18]
    simp only [gt_nil, true_and, eq_self, gt_iconst, gt_iret, gt_retz, bkX10_putBy_18, ka0_0, ra0_0_0, ka0_1, ra0_1_4, ka0_19, la0_19]
    cases h
    exact ⟨Nat.le_refl _, Nat.le_refl _, hq⟩
  · replace h := gw_ifn h c_5
    refine ⟨fun c_6 => ?_, fun c_6 => ?_⟩
    · replace h := gw_ifp h c_6
      refine hK _ _ _ _ _ _ _ ?_
      rw [fdX10_putBy_20]
      simp only [gt_nil, true_and, eq_self, gt_aload_n, gt_rfk, gw_nth, gt_get_r, gt_get_i, gt_get_z, gt_iload_n, gt_ink, gt_aaload, true_or, or_true, gt_astore_n, gw_set, gt_tsw, gw_sw, bkX10_putBy_20, ka0_0, ra0_0_0, ka0_1, ra0_1_4, ka0_19, la0_19]
      obtain ⟨c_7, h⟩ := gw_ife h
      refine ⟨c_7, ?_⟩
      obtain ⟨q_8, hq_8, h⟩ := gw_lt h
      obtain ⟨hsq_8, hrq_8⟩ : gw_sh S 1 (a0 + 38 + 15 * v1.toNatClampNeg) ∧ gw_rf S (a0 + 19) v1.toNatClampNeg = a0 + 38 + 15 * v1.toNatClampNeg := gw_sub_in (gw_sub hS0 3 1 (by decide +kernel)) c_7.2
      rw [← hq_8] at hsq_8 hrq_8
      have kq_8_0 : gw_kd S q_8 = 1 := (hsq_8 0 _ rfl).1
      have rq_8_0_0 : gw_rf S q_8 0 = q_8 + 1 := (hsq_8 0 _ rfl).2.2 (0, 1) (by decide)
      have rq_8_0_1 : gw_rf S q_8 1 = q_8 + 7 := (hsq_8 0 _ rfl).2.2 (1, 7) (by decide)
      have rq_8_0_2 : gw_rf S q_8 2 = q_8 + 11 := (hsq_8 0 _ rfl).2.2 (2, 11) (by decide)
      have kq_8_1 : gw_kd S (q_8 + 1) = 0 := (hsq_8 1 _ rfl).1
      have rq_8_1_0 : gw_rf S (q_8 + 1) 0 = q_8 + 2 := (hsq_8 1 _ rfl).2.2 (0, 2) (by decide)
      have kq_8_11 : gw_kd S (q_8 + 11) = 8 := (hsq_8 11 _ rfl).1
      have kq_8_2 : gw_kd S (q_8 + 2) = 7 := (hsq_8 2 _ rfl).1
      have kq_8_7 : gw_kd S (q_8 + 7) = 8 := (hsq_8 7 _ rfl).1
      simp only [gt_nil, true_and, eq_self, gt_astore_n, gw_set, gt_iload_n, gt_ink, gw_nth, gt_tsw, gw_sw, hrq_8, ka0_0, ra0_0_0, ka0_1, ra0_1_4, ka0_19, la0_19, kq_8_0, rq_8_0_0, rq_8_0_1, rq_8_0_2, kq_8_1, rq_8_1_0, kq_8_11, kq_8_2, kq_8_7]
      refine ⟨fun c_9 => ?_, fun c_9 => ?_⟩
      · replace h := gw_ifp h c_9
        refine hK _ _ _ _ _ _ _ ?_
        rw [fdX10_putBy_72]
        simp only [gt_nil, true_and, eq_self, gt_aload_n, gt_rfk, gw_nth, gt_get_r, gt_get_i, gt_get_z, gt_v0, gt_v1, gt_v2, gt_v3, gt_v4, gt_v5, gt_iret, gt_retz, bkX10_putBy_72, ka0_0, ra0_0_0, ka0_1, ra0_1_4, ka0_19, la0_19, kq_8_0, rq_8_0_0, rq_8_0_1, rq_8_0_2, kq_8_1, rq_8_1_0, kq_8_11, kq_8_2, kq_8_7]
        obtain ⟨⟨r_10, μ_11⟩, e_12, h⟩ := gw_bnd h
        refine ⟨rfl, 0, 0, Nat.le_refl _, Nat.le_refl _, ok_X8_size (gw_sub hsq_8 8 7 (by decide +kernel)) e_12 ?_⟩
        dsimp only at h
        simp only [gt_nil, true_and, eq_self, gt_iret, gt_retz, Option.toList, List.cons_append, List.nil_append, Nat.add_zero, ka0_0, ra0_0_0, ka0_1, ra0_1_4, ka0_19, la0_19, kq_8_0, rq_8_0_0, rq_8_0_1, rq_8_0_2, kq_8_1, rq_8_1_0, kq_8_11, kq_8_2, kq_8_7]
        cases h
        exact ⟨Nat.le_refl _, Nat.le_refl _, hq⟩
      replace h := gw_ifn h c_9
      refine ⟨fun c_14 => ?_, fun c_14 => ?_⟩
      · replace h := gw_ifp h c_14
        refine hK _ _ _ _ _ _ _ ?_
        rw [fdX10_putBy_80]
        simp only [gt_nil, true_and, eq_self, gt_aload_n, gt_rfk, gw_nth, gt_get_r, gt_get_i, gt_get_z, gt_v0, gt_v1, gt_v2, gt_v3, gt_v4, gt_v5, gt_iret, gt_retz, bkX10_putBy_80, ka0_0, ra0_0_0, ka0_1, ra0_1_4, ka0_19, la0_19, kq_8_0, rq_8_0_0, rq_8_0_1, rq_8_0_2, kq_8_1, rq_8_1_0, kq_8_11, kq_8_2, kq_8_7]
        obtain ⟨⟨r_15, μ_16⟩, e_17, h⟩ := gw_bnd h
        refine ⟨rfl, 0, 0, Nat.le_refl _, Nat.le_refl _, ok_X8_size (gw_sub hsq_8 8 11 (by decide +kernel)) e_17 ?_⟩
        dsimp only at h
        simp only [gt_nil, true_and, eq_self, gt_iret, gt_retz, Option.toList, List.cons_append, List.nil_append, Nat.add_zero, ka0_0, ra0_0_0, ka0_1, ra0_1_4, ka0_19, la0_19, kq_8_0, rq_8_0_0, rq_8_0_1, rq_8_0_2, kq_8_1, rq_8_1_0, kq_8_11, kq_8_2, kq_8_7]
        cases h
        exact ⟨Nat.le_refl _, Nat.le_refl _, hq⟩
      replace h := gw_ifn h c_14
      refine ⟨fun c_19 => ?_, fun c_19 => ?_⟩
      · replace h := gw_ifp h c_19
        refine hK _ _ _ _ _ _ _ ?_
        rw [fdX10_putBy_88]
        simp only [gt_nil, true_and, eq_self, gt_aload_n, gt_rfk, gw_nth, gt_get_r, gt_get_i, gt_get_z, gt_iret, gt_retz, bkX10_putBy_88, ka0_0, ra0_0_0, ka0_1, ra0_1_4, ka0_19, la0_19, kq_8_0, rq_8_0_0, rq_8_0_1, rq_8_0_2, kq_8_1, rq_8_1_0, kq_8_11, kq_8_2, kq_8_7]
        cases h
        exact ⟨Nat.le_refl _, Nat.le_refl _, hq⟩
      replace h := gw_ifn h c_19
      refine ⟨fun c_20 => ?_, fun c_20 => ?_⟩
      · replace h := gw_ifp h c_20
        refine hK _ _ _ _ _ _ _ ?_
        rw [fdX10_putBy_99]
        simp only [gt_nil, true_and, eq_self, gt_aload_n, gt_rfk, gw_nth, gt_get_r, gt_get_i, gt_get_z, gt_iret, gt_retz, bkX10_putBy_99, ka0_0, ra0_0_0, ka0_1, ra0_1_4, ka0_19, la0_19, kq_8_0, rq_8_0_0, rq_8_0_1, rq_8_0_2, kq_8_1, rq_8_1_0, kq_8_11, kq_8_2, kq_8_7]
        cases h
        exact ⟨Nat.le_refl _, Nat.le_refl _, hq⟩
      replace h := gw_ifn h c_20
      refine ⟨fun c_21 => ?_, fun c_21 => ?_⟩
      · replace h := gw_ifp h c_21
        refine hK _ _ _ _ _ _ _ ?_
        rw [fdX10_putBy_107]
        simp only [gt_nil, true_and, eq_self, gt_aload_n, gt_rfk, gw_nth, gt_get_r, gt_get_i, gt_get_z, gt_iret, gt_retz, bkX10_putBy_107, ka0_0, ra0_0_0, ka0_1, ra0_1_4, ka0_19, la0_19, kq_8_0, rq_8_0_0, rq_8_0_1, rq_8_0_2, kq_8_1, rq_8_1_0, kq_8_11, kq_8_2, kq_8_7]
        cases h
        exact ⟨Nat.le_refl _, Nat.le_refl _, hq⟩
      replace h := gw_ifn h c_21
      refine ⟨fun c_22 => ?_, fun c_22 => ?_⟩
      · replace h := gw_ifp h c_22
        refine hK _ _ _ _ _ _ _ ?_
        rw [fdX10_putBy_115]
        simp only [gt_nil, true_and, eq_self, gt_aload_n, gt_rfk, gw_nth, gt_get_r, gt_get_i, gt_get_z, gt_if, gt_iconst, gt_goto, bkX10_putBy_115, ka0_0, ra0_0_0, ka0_1, ra0_1_4, ka0_19, la0_19, kq_8_0, rq_8_0_0, rq_8_0_1, rq_8_0_2, kq_8_1, rq_8_1_0, kq_8_11, kq_8_2, kq_8_7]
        refine ⟨fun c_23 => ?_, fun c_23 => ?_⟩
        · replace h := gw_ifp h c_23
          refine hK _ _ _ _ _ _ _ ?_
          rw [fdX10_putBy_129]
          simp only [gt_nil, true_and, eq_self, gt_iconst, bkX10_putBy_129, ka0_0, ra0_0_0, ka0_1, ra0_1_4, ka0_19, la0_19, kq_8_0, rq_8_0_0, rq_8_0_1, rq_8_0_2, kq_8_1, rq_8_1_0, kq_8_11, kq_8_2, kq_8_7]
          refine hK _ _ _ _ _ _ _ ?_
          rw [fdX10_putBy_130]
          simp only [gt_nil, true_and, eq_self, gt_iret, gt_retz, bkX10_putBy_130, ka0_0, ra0_0_0, ka0_1, ra0_1_4, ka0_19, la0_19, kq_8_0, rq_8_0_0, rq_8_0_1, rq_8_0_2, kq_8_1, rq_8_1_0, kq_8_11, kq_8_2, kq_8_7]
          cases h
          exact ⟨Nat.le_refl _, Nat.le_refl _, hq⟩
        · replace h := gw_ifn h c_23
          refine hK _ _ _ _ _ _ _ ?_
          rw [fdX10_putBy_130]
          simp only [gt_nil, true_and, eq_self, gt_iret, gt_retz, bkX10_putBy_130, ka0_0, ra0_0_0, ka0_1, ra0_1_4, ka0_19, la0_19, kq_8_0, rq_8_0_0, rq_8_0_1, rq_8_0_2, kq_8_1, rq_8_1_0, kq_8_11, kq_8_2, kq_8_7]
          cases h
          exact ⟨Nat.le_refl _, Nat.le_refl _, hq⟩
      replace h := gw_ifn h c_22
      refine ⟨fun c_24 => ?_, fun c_24 => ?_⟩
      · replace h := gw_ifp h c_24
        refine hK _ _ _ _ _ _ _ ?_
        rw [fdX10_putBy_131]
        simp only [gt_nil, true_and, eq_self, gt_aload_n, gt_rfk, gw_nth, gt_get_r, gt_get_i, gt_get_z, gt_iret, gt_retz, bkX10_putBy_131, ka0_0, ra0_0_0, ka0_1, ra0_1_4, ka0_19, la0_19, kq_8_0, rq_8_0_0, rq_8_0_1, rq_8_0_2, kq_8_1, rq_8_1_0, kq_8_11, kq_8_2, kq_8_7]
        cases h
        exact ⟨Nat.le_refl _, Nat.le_refl _, hq⟩
      replace h := gw_ifn h c_24
      refine hK _ _ _ _ _ _ _ ?_
      rw [fdX10_putBy_142]
      simp only [gt_nil, true_and, eq_self, gt_iconst, gt_iret, gt_retz, bkX10_putBy_142, ka0_0, ra0_0_0, ka0_1, ra0_1_4, ka0_19, la0_19, kq_8_0, rq_8_0_0, rq_8_0_1, rq_8_0_2, kq_8_1, rq_8_1_0, kq_8_11, kq_8_2, kq_8_7]
      cases h
      exact ⟨Nat.le_refl _, Nat.le_refl _, hq⟩
    · replace h := gw_ifn h c_6
      refine hK _ _ _ _ _ _ _ ?_
      rw [fdX10_putBy_18]
      simp only [gt_nil, true_and, eq_self, gt_iconst, gt_iret, gt_retz, bkX10_putBy_18, ka0_0, ra0_0_0, ka0_1, ra0_1_4, ka0_19, la0_19]
      cases h
      exact ⟨Nat.le_refl _, Nat.le_refl _, hq⟩
def F_X10_spent (n0 : Nat) (a0 : Nat) (v1 : Int32) (μ : gw_M) : Option (Int32 × gw_M) := (F_X10_within n0 v1 0 3 μ).bind (fun (z_4 : Int32 × gw_M) => (if z_4.1 = 0 then some ((-1), z_4.2) else (if 0 ≤ v1 ∧ v1.toNatClampNeg < 4 then some ((z_4.2 (a0 + 34) v1.toNatClampNeg), z_4.2) else none)))
theorem ok_X10_spent {l : Launch} {x : gw_C} {d : Nat} {S : gw_S} {Q : Option Value → gw_S → gw_M → Prop} {v1 : Int32} {a0 : Nat} {n0 : Nat} {μ : gw_M} {r μ'} (hS0 : gw_sh S 10 a0) (h : F_X10_spent n0 a0 v1 μ = some (r, μ')) (hq : Q (some (.int r)) S μ') : gw_ok l x (d + 2) sgX10_spent 0 0 [.ref a0, .int v1] S μ Q := by
  refine gw_ok_of stX10_spent (lv0 := [.ref a0, .int v1]) (Nat.le_of_ble_eq_true rfl) rfl rfl ?_
  intro K hK
  have ka0_0 : gw_kd S a0 = 10 := (hS0 0 _ rfl).1
  have ra0_0_0 : gw_rf S a0 0 = a0 + 1 := (hS0 0 _ rfl).2.2 (0, 1) (by decide)
  have ka0_1 : gw_kd S (a0 + 1) = 3 := (hS0 1 _ rfl).1
  have ra0_1_14 : gw_rf S (a0 + 1) 14 = a0 + 26 := (hS0 1 _ rfl).2.2 (14, 26) (by decide)
  have ka0_26 : gw_kd S (a0 + 26) = 2 := (hS0 26 _ rfl).1
  have ra0_26_11 : gw_rf S (a0 + 26) 11 = a0 + 34 := (hS0 26 _ rfl).2.2 (11, 34) (by decide)
  have ka0_34 : gw_kd S (a0 + 34) = 12 := (hS0 34 _ rfl).1
  have la0_34 : gw_ln S (a0 + 34) = 4 := (hS0 34 _ rfl).2.1
  unfold F_X10_spent at h
  refine hK _ _ _ _ _ _ _ ?_
  rw [fdX10_spent_0]
  simp only [gt_nil, true_and, eq_self, gt_iload_n, gt_ink, gw_nth, gt_iconst, gt_s1_0, gt_s2_0, gt_s3_0, gt_s4_0, gt_s1_1, gt_s2_1, gt_s3_1, gt_s4_1, gt_acpy, gt_if, gt_aload_n, gt_rfk, gt_get_r, gt_get_i, gt_get_z, gt_iaload, gt_goto, bkX10_spent_0, ka0_0, ra0_0_0, ka0_1, ra0_1_14, ka0_26, ra0_26_11, ka0_34, la0_34]
  obtain ⟨⟨r_1, μ_2⟩, e_3, h⟩ := gw_bnd h
  refine ⟨rfl, 0, 0, Nat.le_refl _, Nat.le_refl _, ok_X10_within e_3 ?_⟩
  intro hbr_1
  dsimp only at h
  simp only [gt_nil, true_and, eq_self, gt_if, gt_aload_n, gt_rfk, gw_nth, gt_get_r, gt_get_i, gt_get_z, gt_iload_n, gt_ink, gt_iaload, gt_goto, Option.toList, List.cons_append, List.nil_append, Nat.add_zero, ka0_0, ra0_0_0, ka0_1, ra0_1_14, ka0_26, ra0_26_11, ka0_34, la0_34]
  refine ⟨fun c_5 => ?_, fun c_5 => ?_⟩
  · replace h := gw_ifp h c_5
    refine hK _ _ _ _ _ _ _ ?_
    rw [fdX10_spent_24]
    simp only [gt_nil, true_and, eq_self, gt_iconst, bkX10_spent_24, ka0_0, ra0_0_0, ka0_1, ra0_1_14, ka0_26, ra0_26_11, ka0_34, la0_34]
    refine hK _ _ _ _ _ _ _ ?_
    rw [fdX10_spent_25]
    simp only [gt_nil, true_and, eq_self, gt_iret, gt_retz, bkX10_spent_25, ka0_0, ra0_0_0, ka0_1, ra0_1_14, ka0_26, ra0_26_11, ka0_34, la0_34]
    cases h
    exact ⟨Nat.le_refl _, Nat.le_refl _, hq⟩
  · replace h := gw_ifn h c_5
    obtain ⟨c_6, h⟩ := gw_ife h
    refine ⟨c_6, ?_⟩
    refine hK _ _ _ _ _ _ _ ?_
    rw [fdX10_spent_25]
    simp only [gt_nil, true_and, eq_self, gt_iret, gt_retz, bkX10_spent_25, ka0_0, ra0_0_0, ka0_1, ra0_1_14, ka0_26, ra0_26_11, ka0_34, la0_34]
    cases h
    exact ⟨Nat.le_refl _, Nat.le_refl _, hq⟩
def F_X10_seenOf_35 (n0 : Nat) (a0 : Nat) (μ : gw_M) : Option (Int32 × gw_M) := some ((-1), μ)
def F_X10_seenOf (n0 : Nat) (a0 : Nat) (v1 : Int32) (v2 : Int32) (μ : gw_M) : Option (Int32 × gw_M) := (F_X10_isEvent n0 v1 μ).bind (fun (z_4 : Int32 × gw_M) => (if z_4.1 = 0 then F_X10_seenOf_35 n0 a0 z_4.2 else (F_X10_within n0 v2 0 2 z_4.2).bind (fun (z_9 : Int32 × gw_M) => (if z_9.1 = 0 then F_X10_seenOf_35 n0 a0 z_9.2 else (if 0 ≤ (((3 : Int32) * v1) + v2) ∧ (((3 : Int32) * v1) + v2).toNatClampNeg < 24 then some ((z_9.2 (a0 + 33) (((3 : Int32) * v1) + v2).toNatClampNeg), z_9.2) else none)))))
theorem B_X10_seenOf_35 {l : Launch} {x : gw_C} {d : Nat} {S : gw_S} {Q : Option Value → gw_S → gw_M → Prop} {K : Nat → gw_Kt} (hK : gw_cl l x (d + 2) bsX10_seenOf Q K) {a0 : Nat} (hS0 : gw_sh S 10 a0) {n0 : Nat}  {u1 u2 : Value} {μ : gw_M} {r μ'} (h : F_X10_seenOf_35 n0 a0 μ = some (r, μ')) (hq : Q (some (.int r)) S μ') : K 35 [.ref a0, u1, u2] [] S μ 0 0 := by
  unfold F_X10_seenOf_35 at h
  refine hK _ _ _ _ _ _ _ ?_
  rw [fdX10_seenOf_35]
  simp only [gt_nil, true_and, eq_self, gt_iconst, bkX10_seenOf_35]
  refine hK _ _ _ _ _ _ _ ?_
  rw [fdX10_seenOf_36]
  simp only [gt_nil, true_and, eq_self, gt_iret, gt_retz, bkX10_seenOf_36]
  cases h
  exact ⟨Nat.le_refl _, Nat.le_refl _, hq⟩
theorem ok_X10_seenOf {l : Launch} {x : gw_C} {d : Nat} {S : gw_S} {Q : Option Value → gw_S → gw_M → Prop} {v1 v2 : Int32} {a0 : Nat} {n0 : Nat} {μ : gw_M} {r μ'} (hS0 : gw_sh S 10 a0) (h : F_X10_seenOf n0 a0 v1 v2 μ = some (r, μ')) (hq : Q (some (.int r)) S μ') : gw_ok l x (d + 3) sgX10_seenOf 0 0 [.ref a0, .int v1, .int v2] S μ Q := by
  refine gw_ok_of stX10_seenOf (lv0 := [.ref a0, .int v1, .int v2]) (Nat.le_of_ble_eq_true rfl) rfl rfl ?_
  intro K hK
  have ka0_0 : gw_kd S a0 = 10 := (hS0 0 _ rfl).1
  have ra0_0_0 : gw_rf S a0 0 = a0 + 1 := (hS0 0 _ rfl).2.2 (0, 1) (by decide)
  have ka0_1 : gw_kd S (a0 + 1) = 3 := (hS0 1 _ rfl).1
  have ra0_1_14 : gw_rf S (a0 + 1) 14 = a0 + 26 := (hS0 1 _ rfl).2.2 (14, 26) (by decide)
  have ka0_26 : gw_kd S (a0 + 26) = 2 := (hS0 26 _ rfl).1
  have ra0_26_10 : gw_rf S (a0 + 26) 10 = a0 + 33 := (hS0 26 _ rfl).2.2 (10, 33) (by decide)
  have ka0_33 : gw_kd S (a0 + 33) = 12 := (hS0 33 _ rfl).1
  have la0_33 : gw_ln S (a0 + 33) = 24 := (hS0 33 _ rfl).2.1
  unfold F_X10_seenOf at h
  refine hK _ _ _ _ _ _ _ ?_
  rw [fdX10_seenOf_0]
  simp only [gt_nil, true_and, eq_self, gt_iload_n, gt_ink, gw_nth, gt_s1_0, gt_s2_0, gt_s3_0, gt_s4_0, gt_s1_1, gt_s2_1, gt_s3_1, gt_s4_1, gt_acpy, gt_if, gt_iconst, gt_aload_n, gt_rfk, gt_get_r, gt_get_i, gt_get_z, gt_imul, gt_iadd, gt_iaload, gt_goto, bkX10_seenOf_0, ka0_0, ra0_0_0, ka0_1, ra0_1_14, ka0_26, ra0_26_10, ka0_33, la0_33]
  obtain ⟨⟨r_1, μ_2⟩, e_3, h⟩ := gw_bnd h
  refine ⟨rfl, 0, 0, Nat.le_refl _, Nat.le_refl _, ok_X10_isEvent e_3 ?_⟩
  intro hbr_1
  dsimp only at h
  simp only [gt_nil, true_and, eq_self, gt_if, gt_iload_n, gt_ink, gw_nth, gt_iconst, gt_s1_0, gt_s2_0, gt_s3_0, gt_s4_0, gt_s1_1, gt_s2_1, gt_s3_1, gt_s4_1, gt_acpy, gt_aload_n, gt_rfk, gt_get_r, gt_get_i, gt_get_z, gt_imul, gt_iadd, gt_iaload, gt_goto, Option.toList, List.cons_append, List.nil_append, Nat.add_zero, ka0_0, ra0_0_0, ka0_1, ra0_1_14, ka0_26, ra0_26_10, ka0_33, la0_33]
  refine ⟨fun c_5 => ?_, fun c_5 => ?_⟩
  · replace h := gw_ifp h c_5
    exact B_X10_seenOf_35 hK hS0 h hq
  · replace h := gw_ifn h c_5
    obtain ⟨⟨r_6, μ_7⟩, e_8, h⟩ := gw_bnd h
    refine ⟨rfl, 0, 0, Nat.le_refl _, Nat.le_refl _, ok_X10_within e_8 ?_⟩
    intro hbr_6
    dsimp only at h
    simp only [gt_nil, true_and, eq_self, gt_if, gt_aload_n, gt_rfk, gw_nth, gt_get_r, gt_get_i, gt_get_z, gt_iconst, gt_iload_n, gt_ink, gt_imul, gt_iadd, gt_iaload, gt_goto, Option.toList, List.cons_append, List.nil_append, Nat.add_zero, ka0_0, ra0_0_0, ka0_1, ra0_1_14, ka0_26, ra0_26_10, ka0_33, la0_33]
    refine ⟨fun c_10 => ?_, fun c_10 => ?_⟩
    · replace h := gw_ifp h c_10
      exact B_X10_seenOf_35 hK hS0 h hq
    · replace h := gw_ifn h c_10
      obtain ⟨c_11, h⟩ := gw_ife h
      refine ⟨c_11, ?_⟩
      refine hK _ _ _ _ _ _ _ ?_
      rw [fdX10_seenOf_36]
      simp only [gt_nil, true_and, eq_self, gt_iret, gt_retz, bkX10_seenOf_36, ka0_0, ra0_0_0, ka0_1, ra0_1_14, ka0_26, ra0_26_10, ka0_33, la0_33]
      cases h
      exact ⟨Nat.le_refl _, Nat.le_refl _, hq⟩
def F_X10_isOpen_25 (n0 : Nat) (a0 : Nat) (μ : gw_M) : Option (Int32 × gw_M) := some (0, μ)
def F_X10_isOpen (n0 : Nat) (a0 : Nat) (v1 : Int32) (μ : gw_M) : Option (Int32 × gw_M) := (F_X10_isGuest n0 v1 μ).bind (fun (z_4 : Int32 × gw_M) => (if z_4.1 = 0 then F_X10_isOpen_25 n0 a0 z_4.2 else (F_X3_guest n0 (a0 + 1) v1 z_4.2).bind (fun (z_9 : Nat × gw_M) => (if (z_9.2 z_9.1 4) = 0 then F_X10_isOpen_25 n0 a0 z_9.2 else some (1, z_9.2)))))
theorem B_X10_isOpen_25 {l : Launch} {x : gw_C} {d : Nat} {S : gw_S} {Q : Option Value → gw_S → gw_M → Prop} {K : Nat → gw_Kt} (hK : gw_cl l x (d + 1) bsX10_isOpen Q K) {a0 : Nat} (hS0 : gw_sh S 10 a0) {n0 : Nat}  {u1 : Value} {μ : gw_M} {r μ'} (h : F_X10_isOpen_25 n0 a0 μ = some (r, μ')) (hq : ((r = 0 ∨ r = 1) → Q (some (.int r)) S μ')) : K 25 [.ref a0, u1] [] S μ 0 0 := by
  unfold F_X10_isOpen_25 at h
  refine hK _ _ _ _ _ _ _ ?_
  rw [fdX10_isOpen_25]
  simp only [gt_nil, true_and, eq_self, gt_iconst, bkX10_isOpen_25]
  refine hK _ _ _ _ _ _ _ ?_
  rw [fdX10_isOpen_26]
  simp only [gt_nil, true_and, eq_self, gt_iret, gt_retz, bkX10_isOpen_26]
  cases h
  exact ⟨(Or.inl rfl), Nat.le_refl _, Nat.le_refl _, hq (Or.inl rfl)⟩
theorem ok_X10_isOpen {l : Launch} {x : gw_C} {d : Nat} {S : gw_S} {Q : Option Value → gw_S → gw_M → Prop} {v1 : Int32} {a0 : Nat} {n0 : Nat} {μ : gw_M} {r μ'} (hS0 : gw_sh S 10 a0) (h : F_X10_isOpen n0 a0 v1 μ = some (r, μ')) (hq : ((r = 0 ∨ r = 1) → Q (some (.int r)) S μ')) : gw_ok l x (d + 2) sgX10_isOpen 0 0 [.ref a0, .int v1] S μ Q := by
  refine gw_ok_of stX10_isOpen (lv0 := [.ref a0, .int v1]) (Nat.le_of_ble_eq_true rfl) rfl rfl ?_
  intro K hK
  have ka0_0 : gw_kd S a0 = 10 := (hS0 0 _ rfl).1
  have ra0_0_0 : gw_rf S a0 0 = a0 + 1 := (hS0 0 _ rfl).2.2 (0, 1) (by decide)
  have ka0_1 : gw_kd S (a0 + 1) = 3 := (hS0 1 _ rfl).1
  unfold F_X10_isOpen at h
  refine hK _ _ _ _ _ _ _ ?_
  rw [fdX10_isOpen_0]
  simp only [gt_nil, true_and, eq_self, gt_iload_n, gt_ink, gw_nth, gt_s1_0, gt_s2_0, gt_s3_0, gt_s4_0, gt_s1_1, gt_s2_1, gt_s3_1, gt_s4_1, gt_acpy, gt_if, gt_aload_n, gt_rfk, gt_get_r, gt_get_i, gt_get_z, gt_v0, gt_v1, gt_v2, gt_v3, gt_v4, gt_v5, gt_iconst, gt_goto, bkX10_isOpen_0, ka0_0, ra0_0_0, ka0_1]
  obtain ⟨⟨r_1, μ_2⟩, e_3, h⟩ := gw_bnd h
  refine ⟨rfl, 0, 0, Nat.le_refl _, Nat.le_refl _, ok_X10_isGuest e_3 ?_⟩
  intro hbr_1
  dsimp only at h
  simp only [gt_nil, true_and, eq_self, gt_if, gt_aload_n, gt_rfk, gw_nth, gt_get_r, gt_get_i, gt_get_z, gt_iload_n, gt_ink, gt_v0, gt_v1, gt_v2, gt_v3, gt_v4, gt_v5, gt_iconst, gt_goto, Option.toList, List.cons_append, List.nil_append, Nat.add_zero, ka0_0, ra0_0_0, ka0_1]
  refine ⟨fun c_5 => ?_, fun c_5 => ?_⟩
  · replace h := gw_ifp h c_5
    exact B_X10_isOpen_25 hK hS0 h hq
  · replace h := gw_ifn h c_5
    obtain ⟨⟨r_6, μ_7⟩, e_8, h⟩ := gw_bnd h
    refine ⟨rfl, 0, 0, Nat.le_refl _, Nat.le_refl _, ok_X3_guest (gw_sub hS0 3 1 (by decide +kernel)) e_8 ?_⟩
    intro hsr_6
    have kr_6_0 : gw_kd S r_6 = 0 := (hsr_6 0 _ rfl).1
    dsimp only at h
    simp only [gt_nil, true_and, eq_self, gt_get_r, gt_get_i, gt_get_z, gt_if, gt_iconst, gt_goto, Option.toList, List.cons_append, List.nil_append, Nat.add_zero, ka0_0, ra0_0_0, ka0_1, kr_6_0]
    refine ⟨fun c_10 => ?_, fun c_10 => ?_⟩
    · replace h := gw_ifp h c_10
      exact B_X10_isOpen_25 hK hS0 h hq
    · replace h := gw_ifn h c_10
      refine hK _ _ _ _ _ _ _ ?_
      rw [fdX10_isOpen_26]
      simp only [gt_nil, true_and, eq_self, gt_iret, gt_retz, bkX10_isOpen_26, ka0_0, ra0_0_0, ka0_1, kr_6_0]
      cases h
      exact ⟨(Or.inr rfl), Nat.le_refl _, Nat.le_refl _, hq (Or.inr rfl)⟩
def F_X10_taken (n0 : Nat) (a0 : Nat) (v1 : Int32) (μ : gw_M) : Option (Int32 × gw_M) := (F_X10_isGuest n0 v1 μ).bind (fun (z_4 : Int32 × gw_M) => (if z_4.1 = 0 then some ((-1), z_4.2) else (if 0 ≤ (v1 - (1 : Int32)) ∧ (v1 - (1 : Int32)).toNatClampNeg < 2 then some ((z_4.2 (a0 + 36) (v1 - (1 : Int32)).toNatClampNeg), z_4.2) else none)))
theorem ok_X10_taken {l : Launch} {x : gw_C} {d : Nat} {S : gw_S} {Q : Option Value → gw_S → gw_M → Prop} {v1 : Int32} {a0 : Nat} {n0 : Nat} {μ : gw_M} {r μ'} (hS0 : gw_sh S 10 a0) (h : F_X10_taken n0 a0 v1 μ = some (r, μ')) (hq : Q (some (.int r)) S μ') : gw_ok l x (d + 2) sgX10_taken 0 0 [.ref a0, .int v1] S μ Q := by
  refine gw_ok_of stX10_taken (lv0 := [.ref a0, .int v1]) (Nat.le_of_ble_eq_true rfl) rfl rfl ?_
  intro K hK
  have ka0_0 : gw_kd S a0 = 10 := (hS0 0 _ rfl).1
  have ra0_0_0 : gw_rf S a0 0 = a0 + 1 := (hS0 0 _ rfl).2.2 (0, 1) (by decide)
  have ka0_1 : gw_kd S (a0 + 1) = 3 := (hS0 1 _ rfl).1
  have ra0_1_14 : gw_rf S (a0 + 1) 14 = a0 + 26 := (hS0 1 _ rfl).2.2 (14, 26) (by decide)
  have ka0_26 : gw_kd S (a0 + 26) = 2 := (hS0 26 _ rfl).1
  have ra0_26_13 : gw_rf S (a0 + 26) 13 = a0 + 36 := (hS0 26 _ rfl).2.2 (13, 36) (by decide)
  have ka0_36 : gw_kd S (a0 + 36) = 12 := (hS0 36 _ rfl).1
  have la0_36 : gw_ln S (a0 + 36) = 2 := (hS0 36 _ rfl).2.1
  unfold F_X10_taken at h
  refine hK _ _ _ _ _ _ _ ?_
  rw [fdX10_taken_0]
  simp only [gt_nil, true_and, eq_self, gt_iload_n, gt_ink, gw_nth, gt_s1_0, gt_s2_0, gt_s3_0, gt_s4_0, gt_s1_1, gt_s2_1, gt_s3_1, gt_s4_1, gt_acpy, gt_if, gt_aload_n, gt_rfk, gt_get_r, gt_get_i, gt_get_z, gt_iconst, gt_isub, gt_iaload, gt_goto, bkX10_taken_0, ka0_0, ra0_0_0, ka0_1, ra0_1_14, ka0_26, ra0_26_13, ka0_36, la0_36]
  obtain ⟨⟨r_1, μ_2⟩, e_3, h⟩ := gw_bnd h
  refine ⟨rfl, 0, 0, Nat.le_refl _, Nat.le_refl _, ok_X10_isGuest e_3 ?_⟩
  intro hbr_1
  dsimp only at h
  simp only [gt_nil, true_and, eq_self, gt_if, gt_aload_n, gt_rfk, gw_nth, gt_get_r, gt_get_i, gt_get_z, gt_iload_n, gt_ink, gt_iconst, gt_isub, gt_iaload, gt_goto, Option.toList, List.cons_append, List.nil_append, Nat.add_zero, ka0_0, ra0_0_0, ka0_1, ra0_1_14, ka0_26, ra0_26_13, ka0_36, la0_36]
  refine ⟨fun c_5 => ?_, fun c_5 => ?_⟩
  · replace h := gw_ifp h c_5
    refine hK _ _ _ _ _ _ _ ?_
    rw [fdX10_taken_24]
    simp only [gt_nil, true_and, eq_self, gt_iconst, bkX10_taken_24, ka0_0, ra0_0_0, ka0_1, ra0_1_14, ka0_26, ra0_26_13, ka0_36, la0_36]
    refine hK _ _ _ _ _ _ _ ?_
    rw [fdX10_taken_25]
    simp only [gt_nil, true_and, eq_self, gt_iret, gt_retz, bkX10_taken_25, ka0_0, ra0_0_0, ka0_1, ra0_1_14, ka0_26, ra0_26_13, ka0_36, la0_36]
    cases h
    exact ⟨Nat.le_refl _, Nat.le_refl _, hq⟩
  · replace h := gw_ifn h c_5
    obtain ⟨c_6, h⟩ := gw_ife h
    refine ⟨c_6, ?_⟩
    refine hK _ _ _ _ _ _ _ ?_
    rw [fdX10_taken_25]
    simp only [gt_nil, true_and, eq_self, gt_iret, gt_retz, bkX10_taken_25, ka0_0, ra0_0_0, ka0_1, ra0_1_14, ka0_26, ra0_26_13, ka0_36, la0_36]
    cases h
    exact ⟨Nat.le_refl _, Nat.le_refl _, hq⟩
def F_X10_longest (n0 : Nat) (a0 : Nat) (v1 : Int32) (μ : gw_M) : Option (Int32 × gw_M) := (F_X10_isGuest n0 v1 μ).bind (fun (z_4 : Int32 × gw_M) => (if z_4.1 = 0 then some ((-1), z_4.2) else (if 0 ≤ (v1 - (1 : Int32)) ∧ (v1 - (1 : Int32)).toNatClampNeg < 2 then some ((z_4.2 (a0 + 37) (v1 - (1 : Int32)).toNatClampNeg), z_4.2) else none)))
theorem ok_X10_longest {l : Launch} {x : gw_C} {d : Nat} {S : gw_S} {Q : Option Value → gw_S → gw_M → Prop} {v1 : Int32} {a0 : Nat} {n0 : Nat} {μ : gw_M} {r μ'} (hS0 : gw_sh S 10 a0) (h : F_X10_longest n0 a0 v1 μ = some (r, μ')) (hq : Q (some (.int r)) S μ') : gw_ok l x (d + 2) sgX10_longest 0 0 [.ref a0, .int v1] S μ Q := by
  refine gw_ok_of stX10_longest (lv0 := [.ref a0, .int v1]) (Nat.le_of_ble_eq_true rfl) rfl rfl ?_
  intro K hK
  have ka0_0 : gw_kd S a0 = 10 := (hS0 0 _ rfl).1
  have ra0_0_0 : gw_rf S a0 0 = a0 + 1 := (hS0 0 _ rfl).2.2 (0, 1) (by decide)
  have ka0_1 : gw_kd S (a0 + 1) = 3 := (hS0 1 _ rfl).1
  have ra0_1_14 : gw_rf S (a0 + 1) 14 = a0 + 26 := (hS0 1 _ rfl).2.2 (14, 26) (by decide)
  have ka0_26 : gw_kd S (a0 + 26) = 2 := (hS0 26 _ rfl).1
  have ra0_26_14 : gw_rf S (a0 + 26) 14 = a0 + 37 := (hS0 26 _ rfl).2.2 (14, 37) (by decide)
  have ka0_37 : gw_kd S (a0 + 37) = 12 := (hS0 37 _ rfl).1
  have la0_37 : gw_ln S (a0 + 37) = 2 := (hS0 37 _ rfl).2.1
  unfold F_X10_longest at h
  refine hK _ _ _ _ _ _ _ ?_
  rw [fdX10_longest_0]
  simp only [gt_nil, true_and, eq_self, gt_iload_n, gt_ink, gw_nth, gt_s1_0, gt_s2_0, gt_s3_0, gt_s4_0, gt_s1_1, gt_s2_1, gt_s3_1, gt_s4_1, gt_acpy, gt_if, gt_aload_n, gt_rfk, gt_get_r, gt_get_i, gt_get_z, gt_iconst, gt_isub, gt_iaload, gt_goto, bkX10_longest_0, ka0_0, ra0_0_0, ka0_1, ra0_1_14, ka0_26, ra0_26_14, ka0_37, la0_37]
  obtain ⟨⟨r_1, μ_2⟩, e_3, h⟩ := gw_bnd h
  refine ⟨rfl, 0, 0, Nat.le_refl _, Nat.le_refl _, ok_X10_isGuest e_3 ?_⟩
  intro hbr_1
  dsimp only at h
  simp only [gt_nil, true_and, eq_self, gt_if, gt_aload_n, gt_rfk, gw_nth, gt_get_r, gt_get_i, gt_get_z, gt_iload_n, gt_ink, gt_iconst, gt_isub, gt_iaload, gt_goto, Option.toList, List.cons_append, List.nil_append, Nat.add_zero, ka0_0, ra0_0_0, ka0_1, ra0_1_14, ka0_26, ra0_26_14, ka0_37, la0_37]
  refine ⟨fun c_5 => ?_, fun c_5 => ?_⟩
  · replace h := gw_ifp h c_5
    refine hK _ _ _ _ _ _ _ ?_
    rw [fdX10_longest_24]
    simp only [gt_nil, true_and, eq_self, gt_iconst, bkX10_longest_24, ka0_0, ra0_0_0, ka0_1, ra0_1_14, ka0_26, ra0_26_14, ka0_37, la0_37]
    refine hK _ _ _ _ _ _ _ ?_
    rw [fdX10_longest_25]
    simp only [gt_nil, true_and, eq_self, gt_iret, gt_retz, bkX10_longest_25, ka0_0, ra0_0_0, ka0_1, ra0_1_14, ka0_26, ra0_26_14, ka0_37, la0_37]
    cases h
    exact ⟨Nat.le_refl _, Nat.le_refl _, hq⟩
  · replace h := gw_ifn h c_5
    obtain ⟨c_6, h⟩ := gw_ife h
    refine ⟨c_6, ?_⟩
    refine hK _ _ _ _ _ _ _ ?_
    rw [fdX10_longest_25]
    simp only [gt_nil, true_and, eq_self, gt_iret, gt_retz, bkX10_longest_25, ka0_0, ra0_0_0, ka0_1, ra0_1_14, ka0_26, ra0_26_14, ka0_37, la0_37]
    cases h
    exact ⟨Nat.le_refl _, Nat.le_refl _, hq⟩
def F_X10_pendingFor (n0 : Nat) (a0 : Nat) (v1 : Int32) (v2 : Int32) (μ : gw_M) : Option (Int32 × gw_M) := (F_X10_isGuest n0 v1 μ).bind (fun (z_4 : Int32 × gw_M) => (if z_4.1 = 0 then some ((-1), z_4.2) else (F_X10_isVector n0 v2 z_4.2).bind (fun (z_9 : Int32 × gw_M) => (if z_9.1 = 0 then some ((-1), z_9.2) else (F_X3_guest n0 (a0 + 1) v1 z_9.2).bind (fun (z_14 : Nat × gw_M) => (F_X0_awaits n0 z_14.1 v2 z_14.2).bind (fun (z_18 : Int32 × gw_M) => (if ¬ z_18.1 = 0 then (F_X3_guest n0 (a0 + 1) v1 z_18.2).bind (fun (z_23 : Nat × gw_M) => (if 0 ≤ v2 ∧ v2.toNatClampNeg < 16 then some (((z_18.2 (a0 + 1) 7) - (z_23.2 (z_23.1 + 5) v2.toNatClampNeg)), z_23.2) else none)) else some ((-1), z_18.2))))))))
theorem ok_X10_pendingFor {l : Launch} {x : gw_C} {d : Nat} {S : gw_S} {Q : Option Value → gw_S → gw_M → Prop} {v1 v2 : Int32} {a0 : Nat} {n0 : Nat} {μ : gw_M} {r μ'} (hS0 : gw_sh S 10 a0) (h : F_X10_pendingFor n0 a0 v1 v2 μ = some (r, μ')) (hq : Q (some (.int r)) S μ') : gw_ok l x (d + 3) sgX10_pendingFor 0 0 [.ref a0, .int v1, .int v2] S μ Q := by
  refine gw_ok_of stX10_pendingFor (lv0 := [.ref a0, .int v1, .int v2]) (Nat.le_of_ble_eq_true rfl) rfl rfl ?_
  intro K hK
  have ka0_0 : gw_kd S a0 = 10 := (hS0 0 _ rfl).1
  have ra0_0_0 : gw_rf S a0 0 = a0 + 1 := (hS0 0 _ rfl).2.2 (0, 1) (by decide)
  have ka0_1 : gw_kd S (a0 + 1) = 3 := (hS0 1 _ rfl).1
  unfold F_X10_pendingFor at h
  refine hK _ _ _ _ _ _ _ ?_
  rw [fdX10_pendingFor_0]
  simp only [gt_nil, true_and, eq_self, gt_iload_n, gt_ink, gw_nth, gt_s1_0, gt_s2_0, gt_s3_0, gt_s4_0, gt_s1_1, gt_s2_1, gt_s3_1, gt_s4_1, gt_acpy, gt_if, gt_aload_n, gt_rfk, gt_get_r, gt_get_i, gt_get_z, gt_v0, gt_v1, gt_v2, gt_v3, gt_v4, gt_v5, bkX10_pendingFor_0, ka0_0, ra0_0_0, ka0_1]
  obtain ⟨⟨r_1, μ_2⟩, e_3, h⟩ := gw_bnd h
  refine ⟨rfl, 0, 0, Nat.le_refl _, Nat.le_refl _, ok_X10_isGuest e_3 ?_⟩
  intro hbr_1
  dsimp only at h
  simp only [gt_nil, true_and, eq_self, gt_if, gt_iload_n, gt_ink, gw_nth, gt_s1_0, gt_s2_0, gt_s3_0, gt_s4_0, gt_s1_1, gt_s2_1, gt_s3_1, gt_s4_1, gt_acpy, gt_aload_n, gt_rfk, gt_get_r, gt_get_i, gt_get_z, gt_v0, gt_v1, gt_v2, gt_v3, gt_v4, gt_v5, Option.toList, List.cons_append, List.nil_append, Nat.add_zero, ka0_0, ra0_0_0, ka0_1]
  refine ⟨fun c_5 => ?_, fun c_5 => ?_⟩
  · replace h := gw_ifp h c_5
    refine hK _ _ _ _ _ _ _ ?_
    rw [fdX10_pendingFor_29]
    simp only [gt_nil, true_and, eq_self, gt_iconst, gt_iret, gt_retz, bkX10_pendingFor_29, ka0_0, ra0_0_0, ka0_1]
    cases h
    exact ⟨Nat.le_refl _, Nat.le_refl _, hq⟩
  · replace h := gw_ifn h c_5
    obtain ⟨⟨r_6, μ_7⟩, e_8, h⟩ := gw_bnd h
    refine ⟨rfl, 0, 0, Nat.le_refl _, Nat.le_refl _, ok_X10_isVector e_8 ?_⟩
    intro hbr_6
    dsimp only at h
    simp only [gt_nil, true_and, eq_self, gt_if, gt_aload_n, gt_rfk, gw_nth, gt_get_r, gt_get_i, gt_get_z, gt_iload_n, gt_ink, gt_v0, gt_v1, gt_v2, gt_v3, gt_v4, gt_v5, Option.toList, List.cons_append, List.nil_append, Nat.add_zero, ka0_0, ra0_0_0, ka0_1]
    refine ⟨fun c_10 => ?_, fun c_10 => ?_⟩
    · replace h := gw_ifp h c_10
      refine hK _ _ _ _ _ _ _ ?_
      rw [fdX10_pendingFor_29]
      simp only [gt_nil, true_and, eq_self, gt_iconst, gt_iret, gt_retz, bkX10_pendingFor_29, ka0_0, ra0_0_0, ka0_1]
      cases h
      exact ⟨Nat.le_refl _, Nat.le_refl _, hq⟩
    · replace h := gw_ifn h c_10
      obtain ⟨⟨r_11, μ_12⟩, e_13, h⟩ := gw_bnd h
      refine ⟨rfl, 0, 0, Nat.le_refl _, Nat.le_refl _, ok_X3_guest (gw_sub hS0 3 1 (by decide +kernel)) e_13 ?_⟩
      intro hsr_11
      have kr_11_0 : gw_kd S r_11 = 0 := (hsr_11 0 _ rfl).1
      dsimp only at h
      simp only [gt_nil, true_and, eq_self, gt_iload_n, gt_ink, gw_nth, gt_v0, gt_v1, gt_v2, gt_v3, gt_v4, gt_v5, gt_if, Option.toList, List.cons_append, List.nil_append, Nat.add_zero, ka0_0, ra0_0_0, ka0_1, kr_11_0]
      obtain ⟨⟨r_15, μ_16⟩, e_17, h⟩ := gw_bnd h
      refine ⟨rfl, 0, 0, Nat.le_refl _, Nat.le_refl _, ok_X0_awaits hsr_11 e_17 ?_⟩
      intro hbr_15
      dsimp only at h
      simp only [gt_nil, true_and, eq_self, gt_if, Option.toList, List.cons_append, List.nil_append, Nat.add_zero, ka0_0, ra0_0_0, ka0_1, kr_11_0]
      refine ⟨fun c_19 => ?_, fun c_19 => ?_⟩
      · replace h := gw_ifp h c_19
        refine hK _ _ _ _ _ _ _ ?_
        rw [fdX10_pendingFor_31]
        simp only [gt_nil, true_and, eq_self, gt_aload_n, gt_rfk, gw_nth, gt_get_r, gt_get_i, gt_get_z, gt_iload_n, gt_ink, gt_v0, gt_v1, gt_v2, gt_v3, gt_v4, gt_v5, gt_iaload, gt_isub, gt_iret, gt_retz, bkX10_pendingFor_31, ka0_0, ra0_0_0, ka0_1, kr_11_0]
        obtain ⟨⟨r_20, μ_21⟩, e_22, h⟩ := gw_bnd h
        refine ⟨rfl, 0, 0, Nat.le_refl _, Nat.le_refl _, ok_X3_guest (gw_sub hS0 3 1 (by decide +kernel)) e_22 ?_⟩
        intro hsr_20
        have kr_20_0 : gw_kd S r_20 = 0 := (hsr_20 0 _ rfl).1
        have rr_20_0_1 : gw_rf S r_20 1 = r_20 + 5 := (hsr_20 0 _ rfl).2.2 (1, 5) (by decide)
        have kr_20_5 : gw_kd S (r_20 + 5) = 12 := (hsr_20 5 _ rfl).1
        have lr_20_5 : gw_ln S (r_20 + 5) = 16 := (hsr_20 5 _ rfl).2.1
        dsimp only at h
        simp only [gt_nil, true_and, eq_self, gt_get_r, gt_get_i, gt_get_z, gt_iload_n, gt_ink, gw_nth, gt_iaload, gt_isub, gt_iret, gt_retz, Option.toList, List.cons_append, List.nil_append, Nat.add_zero, ka0_0, ra0_0_0, ka0_1, kr_11_0, kr_20_0, rr_20_0_1, kr_20_5, lr_20_5]
        obtain ⟨c_24, h⟩ := gw_ife h
        refine ⟨c_24, ?_⟩
        cases h
        exact ⟨Nat.le_refl _, Nat.le_refl _, hq⟩
      · replace h := gw_ifn h c_19
        refine hK _ _ _ _ _ _ _ ?_
        rw [fdX10_pendingFor_29]
        simp only [gt_nil, true_and, eq_self, gt_iconst, gt_iret, gt_retz, bkX10_pendingFor_29, ka0_0, ra0_0_0, ka0_1, kr_11_0]
        cases h
        exact ⟨Nat.le_refl _, Nat.le_refl _, hq⟩
def F_X10_clock (n0 : Nat) (a0 : Nat) (v1 : Int32) (μ : gw_M) : Option (Int32 × gw_M) := (F_X10_within n0 v1 0 2 μ).bind (fun (z_4 : Int32 × gw_M) => (if z_4.1 = 0 then some ((-1000000000), z_4.2) else (F_X3_clockAt n0 (a0 + 1) v1 (z_4.2 (a0 + 1) 7) z_4.2).bind (fun (z_9 : Int32 × gw_M) => some (z_9.1, z_9.2))))
theorem ok_X10_clock {l : Launch} {x : gw_C} {d : Nat} {S : gw_S} {Q : Option Value → gw_S → gw_M → Prop} {v1 : Int32} {a0 : Nat} {n0 : Nat} {μ : gw_M} {r μ'} (hS0 : gw_sh S 10 a0) (h : F_X10_clock n0 a0 v1 μ = some (r, μ')) (hq : Q (some (.int r)) S μ') : gw_ok l x (d + 4) sgX10_clock 0 0 [.ref a0, .int v1] S μ Q := by
  refine gw_ok_of stX10_clock (lv0 := [.ref a0, .int v1]) (Nat.le_of_ble_eq_true rfl) rfl rfl ?_
  intro K hK
  have ka0_0 : gw_kd S a0 = 10 := (hS0 0 _ rfl).1
  have ra0_0_0 : gw_rf S a0 0 = a0 + 1 := (hS0 0 _ rfl).2.2 (0, 1) (by decide)
  have ka0_1 : gw_kd S (a0 + 1) = 3 := (hS0 1 _ rfl).1
  unfold F_X10_clock at h
  refine hK _ _ _ _ _ _ _ ?_
  rw [fdX10_clock_0]
  simp only [gt_nil, true_and, eq_self, gt_iload_n, gt_ink, gw_nth, gt_iconst, gt_s1_0, gt_s2_0, gt_s3_0, gt_s4_0, gt_s1_1, gt_s2_1, gt_s3_1, gt_s4_1, gt_acpy, gt_if, gt_aload_n, gt_rfk, gt_get_r, gt_get_i, gt_get_z, gt_v0, gt_v1, gt_v2, gt_v3, gt_v4, gt_v5, gt_goto, bkX10_clock_0, ka0_0, ra0_0_0, ka0_1]
  obtain ⟨⟨r_1, μ_2⟩, e_3, h⟩ := gw_bnd h
  refine ⟨rfl, 0, 0, Nat.le_refl _, Nat.le_refl _, ok_X10_within e_3 ?_⟩
  intro hbr_1
  dsimp only at h
  simp only [gt_nil, true_and, eq_self, gt_if, gt_aload_n, gt_rfk, gw_nth, gt_get_r, gt_get_i, gt_get_z, gt_iload_n, gt_ink, gt_v0, gt_v1, gt_v2, gt_v3, gt_v4, gt_v5, gt_goto, Option.toList, List.cons_append, List.nil_append, Nat.add_zero, ka0_0, ra0_0_0, ka0_1]
  refine ⟨fun c_5 => ?_, fun c_5 => ?_⟩
  · replace h := gw_ifp h c_5
    refine hK _ _ _ _ _ _ _ ?_
    rw [fdX10_clock_27]
    simp only [gt_nil, true_and, eq_self, gt_ldc_w, bkX10_clock_27, ka0_0, ra0_0_0, ka0_1]
    refine hK _ _ _ _ _ _ _ ?_
    rw [fdX10_clock_30]
    simp only [gt_nil, true_and, eq_self, gt_iret, gt_retz, bkX10_clock_30, ka0_0, ra0_0_0, ka0_1]
    cases h
    exact ⟨Nat.le_refl _, Nat.le_refl _, hq⟩
  · replace h := gw_ifn h c_5
    obtain ⟨⟨r_6, μ_7⟩, e_8, h⟩ := gw_bnd h
    refine ⟨rfl, 0, 0, Nat.le_refl _, Nat.le_refl _, ok_X3_clockAt (gw_sub hS0 3 1 (by decide +kernel)) e_8 ?_⟩
    dsimp only at h
    simp only [gt_nil, true_and, eq_self, gt_goto, Option.toList, List.cons_append, List.nil_append, Nat.add_zero, ka0_0, ra0_0_0, ka0_1]
    refine hK _ _ _ _ _ _ _ ?_
    rw [fdX10_clock_30]
    simp only [gt_nil, true_and, eq_self, gt_iret, gt_retz, bkX10_clock_30, ka0_0, ra0_0_0, ka0_1]
    cases h
    exact ⟨Nat.le_refl _, Nat.le_refl _, hq⟩
def F_X10_timed (n0 : Nat) (a0 : Nat) (v1 : Int32) (v2 : Int32) (μ : gw_M) : Option (Int32 × gw_M) := (if ¬ v1 = (-1) then (F_X10_within n0 v1 0 ((μ (a0 + 22) 3) - (1 : Int32)) μ).bind (fun (z_5 : Int32 × gw_M) => (if ¬ z_5.1 = 0 then (if v2 = (0 : Int32) then (if 0 ≤ v1 ∧ v1.toNatClampNeg < 12 then some ((z_5.2 (a0 + 23) v1.toNatClampNeg), z_5.2) else none) else (if v2 = ((0 : Int32) + 1) then (if 0 ≤ v1 ∧ v1.toNatClampNeg < 12 then some ((z_5.2 (a0 + 24) v1.toNatClampNeg), z_5.2) else none) else (if v2 = (((0 : Int32) + 1) + 1) then (if 0 ≤ v1 ∧ v1.toNatClampNeg < 12 then some ((z_5.2 (a0 + 25) v1.toNatClampNeg), z_5.2) else none) else (if v2 = ((((0 : Int32) + 1) + 1) + 1) then (F_X3_dueTime n0 (a0 + 1) v1 z_5.2).bind (fun (z_17 : Int32 × gw_M) => some (z_17.1, z_17.2)) else some ((-1000000000), z_5.2))))) else some ((-1000000000), z_5.2))) else some ((μ (a0 + 22) 3), μ))
theorem ok_X10_timed {l : Launch} {x : gw_C} {d : Nat} {S : gw_S} {Q : Option Value → gw_S → gw_M → Prop} {v1 v2 : Int32} {a0 : Nat} {n0 : Nat} {μ : gw_M} {r μ'} (hS0 : gw_sh S 10 a0) (h : F_X10_timed n0 a0 v1 v2 μ = some (r, μ')) (hq : Q (some (.int r)) S μ') : gw_ok l x (d + 5) sgX10_timed 0 0 [.ref a0, .int v1, .int v2] S μ Q := by
  refine gw_ok_of stX10_timed (lv0 := [.ref a0, .int v1, .int v2]) (Nat.le_of_ble_eq_true rfl) rfl rfl ?_
  intro K hK
  have ka0_0 : gw_kd S a0 = 10 := (hS0 0 _ rfl).1
  have ra0_0_0 : gw_rf S a0 0 = a0 + 1 := (hS0 0 _ rfl).2.2 (0, 1) (by decide)
  have ka0_1 : gw_kd S (a0 + 1) = 3 := (hS0 1 _ rfl).1
  have ra0_1_13 : gw_rf S (a0 + 1) 13 = a0 + 22 := (hS0 1 _ rfl).2.2 (13, 22) (by decide)
  have ka0_22 : gw_kd S (a0 + 22) = 9 := (hS0 22 _ rfl).1
  have ra0_22_0 : gw_rf S (a0 + 22) 0 = a0 + 23 := (hS0 22 _ rfl).2.2 (0, 23) (by decide)
  have ra0_22_1 : gw_rf S (a0 + 22) 1 = a0 + 24 := (hS0 22 _ rfl).2.2 (1, 24) (by decide)
  have ra0_22_2 : gw_rf S (a0 + 22) 2 = a0 + 25 := (hS0 22 _ rfl).2.2 (2, 25) (by decide)
  have ka0_23 : gw_kd S (a0 + 23) = 12 := (hS0 23 _ rfl).1
  have la0_23 : gw_ln S (a0 + 23) = 12 := (hS0 23 _ rfl).2.1
  have ka0_24 : gw_kd S (a0 + 24) = 12 := (hS0 24 _ rfl).1
  have la0_24 : gw_ln S (a0 + 24) = 12 := (hS0 24 _ rfl).2.1
  have ka0_25 : gw_kd S (a0 + 25) = 12 := (hS0 25 _ rfl).1
  have la0_25 : gw_ln S (a0 + 25) = 12 := (hS0 25 _ rfl).2.1
  unfold F_X10_timed at h
  refine hK _ _ _ _ _ _ _ ?_
  rw [fdX10_timed_0]
  simp only [gt_nil, true_and, eq_self, gt_iload_n, gt_ink, gw_nth, gt_iconst, gt_icmp, gt_aload_n, gt_rfk, gt_get_r, gt_get_i, gt_get_z, gt_iret, gt_retz, bkX10_timed_0, ka0_0, ra0_0_0, ka0_1, ra0_1_13, ka0_22, ra0_22_0, ra0_22_1, ra0_22_2, ka0_23, la0_23, ka0_24, la0_24, ka0_25, la0_25]
  refine ⟨fun c_1 => ?_, fun c_1 => ?_⟩
  · replace h := gw_ifp h c_1
    refine hK _ _ _ _ _ _ _ ?_
    rw [fdX10_timed_16]
    simp only [gt_nil, true_and, eq_self, gt_iload_n, gt_ink, gw_nth, gt_iconst, gt_aload_n, gt_rfk, gt_get_r, gt_get_i, gt_get_z, gt_isub, gt_s1_0, gt_s2_0, gt_s3_0, gt_s4_0, gt_s1_1, gt_s2_1, gt_s3_1, gt_s4_1, gt_acpy, gt_if, gt_ldc_w, gt_iret, gt_retz, bkX10_timed_16, ka0_0, ra0_0_0, ka0_1, ra0_1_13, ka0_22, ra0_22_0, ra0_22_1, ra0_22_2, ka0_23, la0_23, ka0_24, la0_24, ka0_25, la0_25]
    obtain ⟨⟨r_2, μ_3⟩, e_4, h⟩ := gw_bnd h
    refine ⟨rfl, 0, 0, Nat.le_refl _, Nat.le_refl _, ok_X10_within e_4 ?_⟩
    intro hbr_2
    dsimp only at h
    simp only [gt_nil, true_and, eq_self, gt_if, gt_ldc_w, gt_iret, gt_retz, Option.toList, List.cons_append, List.nil_append, Nat.add_zero, ka0_0, ra0_0_0, ka0_1, ra0_1_13, ka0_22, ra0_22_0, ra0_22_1, ra0_22_2, ka0_23, la0_23, ka0_24, la0_24, ka0_25, la0_25]
    refine ⟨fun c_6 => ?_, fun c_6 => ?_⟩
    · replace h := gw_ifp h c_6
      refine hK _ _ _ _ _ _ _ ?_
      rw [fdX10_timed_40]
      simp only [gt_nil, true_and, eq_self, gt_iload_n, gt_ink, gw_nth, gt_tsw, gw_sw, bkX10_timed_40, ka0_0, ra0_0_0, ka0_1, ra0_1_13, ka0_22, ra0_22_0, ra0_22_1, ra0_22_2, ka0_23, la0_23, ka0_24, la0_24, ka0_25, la0_25]
      refine ⟨fun c_7 => ?_, fun c_7 => ?_⟩
      · replace h := gw_ifp h c_7
        refine hK _ _ _ _ _ _ _ ?_
        rw [fdX10_timed_72]
        simp only [gt_nil, true_and, eq_self, gt_aload_n, gt_rfk, gw_nth, gt_get_r, gt_get_i, gt_get_z, gt_iload_n, gt_ink, gt_iaload, gt_iret, gt_retz, bkX10_timed_72, ka0_0, ra0_0_0, ka0_1, ra0_1_13, ka0_22, ra0_22_0, ra0_22_1, ra0_22_2, ka0_23, la0_23, ka0_24, la0_24, ka0_25, la0_25]
        obtain ⟨c_8, h⟩ := gw_ife h
        refine ⟨c_8, ?_⟩
        cases h
        exact ⟨Nat.le_refl _, Nat.le_refl _, hq⟩
      replace h := gw_ifn h c_7
      refine ⟨fun c_9 => ?_, fun c_9 => ?_⟩
      · replace h := gw_ifp h c_9
        refine hK _ _ _ _ _ _ _ ?_
        rw [fdX10_timed_85]
        simp only [gt_nil, true_and, eq_self, gt_aload_n, gt_rfk, gw_nth, gt_get_r, gt_get_i, gt_get_z, gt_iload_n, gt_ink, gt_iaload, gt_iret, gt_retz, bkX10_timed_85, ka0_0, ra0_0_0, ka0_1, ra0_1_13, ka0_22, ra0_22_0, ra0_22_1, ra0_22_2, ka0_23, la0_23, ka0_24, la0_24, ka0_25, la0_25]
        obtain ⟨c_10, h⟩ := gw_ife h
        refine ⟨c_10, ?_⟩
        cases h
        exact ⟨Nat.le_refl _, Nat.le_refl _, hq⟩
      replace h := gw_ifn h c_9
      refine ⟨fun c_11 => ?_, fun c_11 => ?_⟩
      · replace h := gw_ifp h c_11
        refine hK _ _ _ _ _ _ _ ?_
        rw [fdX10_timed_98]
        simp only [gt_nil, true_and, eq_self, gt_aload_n, gt_rfk, gw_nth, gt_get_r, gt_get_i, gt_get_z, gt_iload_n, gt_ink, gt_iaload, gt_iret, gt_retz, bkX10_timed_98, ka0_0, ra0_0_0, ka0_1, ra0_1_13, ka0_22, ra0_22_0, ra0_22_1, ra0_22_2, ka0_23, la0_23, ka0_24, la0_24, ka0_25, la0_25]
        obtain ⟨c_12, h⟩ := gw_ife h
        refine ⟨c_12, ?_⟩
        cases h
        exact ⟨Nat.le_refl _, Nat.le_refl _, hq⟩
      replace h := gw_ifn h c_11
      refine ⟨fun c_13 => ?_, fun c_13 => ?_⟩
      · replace h := gw_ifp h c_13
        refine hK _ _ _ _ _ _ _ ?_
        rw [fdX10_timed_111]
        simp only [gt_nil, true_and, eq_self, gt_aload_n, gt_rfk, gw_nth, gt_get_r, gt_get_i, gt_get_z, gt_iload_n, gt_ink, gt_v0, gt_v1, gt_v2, gt_v3, gt_v4, gt_v5, gt_iret, gt_retz, bkX10_timed_111, ka0_0, ra0_0_0, ka0_1, ra0_1_13, ka0_22, ra0_22_0, ra0_22_1, ra0_22_2, ka0_23, la0_23, ka0_24, la0_24, ka0_25, la0_25]
        obtain ⟨⟨r_14, μ_15⟩, e_16, h⟩ := gw_bnd h
        refine ⟨rfl, 0, 0, Nat.le_refl _, Nat.le_refl _, ok_X3_dueTime (gw_sub hS0 3 1 (by decide +kernel)) e_16 ?_⟩
        dsimp only at h
        simp only [gt_nil, true_and, eq_self, gt_iret, gt_retz, Option.toList, List.cons_append, List.nil_append, Nat.add_zero, ka0_0, ra0_0_0, ka0_1, ra0_1_13, ka0_22, ra0_22_0, ra0_22_1, ra0_22_2, ka0_23, la0_23, ka0_24, la0_24, ka0_25, la0_25]
        cases h
        exact ⟨Nat.le_refl _, Nat.le_refl _, hq⟩
      replace h := gw_ifn h c_13
      refine hK _ _ _ _ _ _ _ ?_
      rw [fdX10_timed_120]
      simp only [gt_nil, true_and, eq_self, gt_ldc_w, gt_iret, gt_retz, bkX10_timed_120, ka0_0, ra0_0_0, ka0_1, ra0_1_13, ka0_22, ra0_22_0, ra0_22_1, ra0_22_2, ka0_23, la0_23, ka0_24, la0_24, ka0_25, la0_25]
      cases h
      exact ⟨Nat.le_refl _, Nat.le_refl _, hq⟩
    · replace h := gw_ifn h c_6
      cases h
      exact ⟨Nat.le_refl _, Nat.le_refl _, hq⟩
  · replace h := gw_ifn h c_1
    cases h
    exact ⟨Nat.le_refl _, Nat.le_refl _, hq⟩
def F_X10_first (n0 : Nat) (a0 : Nat) (μ : gw_M) : Option (Int32 × gw_M) := (F_X3_firstDue n0 (a0 + 1) μ).bind (fun (z_4 : Int32 × gw_M) => some (z_4.1, z_4.2))
theorem ok_X10_first {l : Launch} {x : gw_C} {d : Nat} {S : gw_S} {Q : Option Value → gw_S → gw_M → Prop} {a0 : Nat} {n0 : Nat} {μ : gw_M} {r μ'} (hS0 : gw_sh S 10 a0) (h : F_X10_first n0 a0 μ = some (r, μ')) (hq : Q (some (.int r)) S μ') : gw_ok l x (d + 6) sgX10_first 0 0 [.ref a0] S μ Q := by
  refine gw_ok_of stX10_first (lv0 := [.ref a0]) (Nat.le_of_ble_eq_true rfl) rfl rfl ?_
  intro K hK
  have ka0_0 : gw_kd S a0 = 10 := (hS0 0 _ rfl).1
  have ra0_0_0 : gw_rf S a0 0 = a0 + 1 := (hS0 0 _ rfl).2.2 (0, 1) (by decide)
  have ka0_1 : gw_kd S (a0 + 1) = 3 := (hS0 1 _ rfl).1
  unfold F_X10_first at h
  refine hK _ _ _ _ _ _ _ ?_
  rw [fdX10_first_0]
  simp only [gt_nil, true_and, eq_self, gt_aload_n, gt_rfk, gw_nth, gt_get_r, gt_get_i, gt_get_z, gt_v0, gt_v1, gt_v2, gt_v3, gt_v4, gt_v5, gt_iret, gt_retz, bkX10_first_0, ka0_0, ra0_0_0, ka0_1]
  obtain ⟨⟨r_1, μ_2⟩, e_3, h⟩ := gw_bnd h
  refine ⟨rfl, 0, 0, Nat.le_refl _, Nat.le_refl _, ok_X3_firstDue (gw_sub hS0 3 1 (by decide +kernel)) e_3 ?_⟩
  dsimp only at h
  simp only [gt_nil, true_and, eq_self, gt_iret, gt_retz, Option.toList, List.cons_append, List.nil_append, Nat.add_zero, ka0_0, ra0_0_0, ka0_1]
  cases h
  exact ⟨Nat.le_refl _, Nat.le_refl _, hq⟩
def F_X10_program (n0 : Nat) (a0 : Nat) (v1 : Int32) (v2 : Int32) (v3 : Int32) (μ : gw_M) : Option (Int32 × gw_M) := (F_X10_isGuest n0 v1 μ).bind (fun (z_4 : Int32 × gw_M) => (if ¬ z_4.1 = 0 then (F_X3_guest n0 (a0 + 1) v1 z_4.2).bind (fun (z_9 : Nat × gw_M) => (if ¬ v2 = (-1) then (F_X10_within n0 v2 0 ((z_9.2 (z_9.1 + 1) 3) - (1 : Int32)) z_9.2).bind (fun (z_14 : Int32 × gw_M) => (if ¬ z_14.1 = 0 then (if v3 = (0 : Int32) then (if 0 ≤ v2 ∧ v2.toNatClampNeg < 24 then some ((z_14.2 (z_9.1 + 2) v2.toNatClampNeg), z_14.2) else none) else (if v3 = ((0 : Int32) + 1) then (if 0 ≤ v2 ∧ v2.toNatClampNeg < 24 then some ((z_14.2 (z_9.1 + 3) v2.toNatClampNeg), z_14.2) else none) else (if v3 = (((0 : Int32) + 1) + 1) then (if 0 ≤ v2 ∧ v2.toNatClampNeg < 24 then some ((z_14.2 (z_9.1 + 4) v2.toNatClampNeg), z_14.2) else none) else some ((-2), z_14.2)))) else some ((-2), z_14.2))) else some ((z_9.2 (z_9.1 + 1) 3), z_9.2))) else some ((-2), z_4.2)))
theorem ok_X10_program {l : Launch} {x : gw_C} {d : Nat} {S : gw_S} {Q : Option Value → gw_S → gw_M → Prop} {v1 v2 v3 : Int32} {a0 : Nat} {n0 : Nat} {μ : gw_M} {r μ'} (hS0 : gw_sh S 10 a0) (h : F_X10_program n0 a0 v1 v2 v3 μ = some (r, μ')) (hq : Q (some (.int r)) S μ') : gw_ok l x (d + 2) sgX10_program 0 0 [.ref a0, .int v1, .int v2, .int v3] S μ Q := by
  refine gw_ok_of stX10_program (lv0 := [.ref a0, .int v1, .int v2, .int v3, .retAddr 0]) (Nat.le_of_ble_eq_true rfl) rfl rfl ?_
  intro K hK
  have ka0_0 : gw_kd S a0 = 10 := (hS0 0 _ rfl).1
  have ra0_0_0 : gw_rf S a0 0 = a0 + 1 := (hS0 0 _ rfl).2.2 (0, 1) (by decide)
  have ka0_1 : gw_kd S (a0 + 1) = 3 := (hS0 1 _ rfl).1
  unfold F_X10_program at h
  refine hK _ _ _ _ _ _ _ ?_
  rw [fdX10_program_0]
  simp only [gt_nil, true_and, eq_self, gt_iload_n, gt_ink, gw_nth, gt_s1_0, gt_s2_0, gt_s3_0, gt_s4_0, gt_s1_1, gt_s2_1, gt_s3_1, gt_s4_1, gt_acpy, gt_if, gt_bipush, gt_iret, gt_retz, bkX10_program_0, ka0_0, ra0_0_0, ka0_1]
  obtain ⟨⟨r_1, μ_2⟩, e_3, h⟩ := gw_bnd h
  refine ⟨rfl, 0, 0, Nat.le_refl _, Nat.le_refl _, ok_X10_isGuest e_3 ?_⟩
  intro hbr_1
  dsimp only at h
  simp only [gt_nil, true_and, eq_self, gt_if, gt_bipush, gt_iret, gt_retz, Option.toList, List.cons_append, List.nil_append, Nat.add_zero, ka0_0, ra0_0_0, ka0_1]
  refine ⟨fun c_5 => ?_, fun c_5 => ?_⟩
  · replace h := gw_ifp h c_5
    refine hK _ _ _ _ _ _ _ ?_
    rw [fdX10_program_10]
    simp only [gt_nil, true_and, eq_self, gt_aload_n, gt_rfk, gw_nth, gt_get_r, gt_get_i, gt_get_z, gt_iload_n, gt_ink, gt_v0, gt_v1, gt_v2, gt_v3, gt_v4, gt_v5, gt_astore, gw_set, gt_iconst, gt_icmp, gt_aload, gt_iret, gt_retz, bkX10_program_10, ka0_0, ra0_0_0, ka0_1]
    obtain ⟨⟨r_6, μ_7⟩, e_8, h⟩ := gw_bnd h
    refine ⟨rfl, 0, 0, Nat.le_refl _, Nat.le_refl _, ok_X3_guest (gw_sub hS0 3 1 (by decide +kernel)) e_8 ?_⟩
    intro hsr_6
    have kr_6_0 : gw_kd S r_6 = 0 := (hsr_6 0 _ rfl).1
    have rr_6_0_0 : gw_rf S r_6 0 = r_6 + 1 := (hsr_6 0 _ rfl).2.2 (0, 1) (by decide)
    have kr_6_1 : gw_kd S (r_6 + 1) = 7 := (hsr_6 1 _ rfl).1
    have rr_6_1_0 : gw_rf S (r_6 + 1) 0 = r_6 + 2 := (hsr_6 1 _ rfl).2.2 (0, 2) (by decide)
    have rr_6_1_1 : gw_rf S (r_6 + 1) 1 = r_6 + 3 := (hsr_6 1 _ rfl).2.2 (1, 3) (by decide)
    have rr_6_1_2 : gw_rf S (r_6 + 1) 2 = r_6 + 4 := (hsr_6 1 _ rfl).2.2 (2, 4) (by decide)
    have kr_6_2 : gw_kd S (r_6 + 2) = 12 := (hsr_6 2 _ rfl).1
    have lr_6_2 : gw_ln S (r_6 + 2) = 24 := (hsr_6 2 _ rfl).2.1
    have kr_6_3 : gw_kd S (r_6 + 3) = 12 := (hsr_6 3 _ rfl).1
    have lr_6_3 : gw_ln S (r_6 + 3) = 24 := (hsr_6 3 _ rfl).2.1
    have kr_6_4 : gw_kd S (r_6 + 4) = 12 := (hsr_6 4 _ rfl).1
    have lr_6_4 : gw_ln S (r_6 + 4) = 24 := (hsr_6 4 _ rfl).2.1
    dsimp only at h
    simp only [gt_nil, true_and, eq_self, gt_get_r, gt_get_i, gt_get_z, gt_astore, gw_set, gt_iload_n, gt_ink, gw_nth, gt_iconst, gt_icmp, gt_aload, gt_rfk, gt_iret, gt_retz, Option.toList, List.cons_append, List.nil_append, Nat.add_zero, ka0_0, ra0_0_0, ka0_1, kr_6_0, rr_6_0_0, kr_6_1, rr_6_1_0, rr_6_1_1, rr_6_1_2, kr_6_2, lr_6_2, kr_6_3, lr_6_3, kr_6_4, lr_6_4]
    refine ⟨fun c_10 => ?_, fun c_10 => ?_⟩
    · replace h := gw_ifp h c_10
      refine hK _ _ _ _ _ _ _ ?_
      rw [fdX10_program_34]
      simp only [gt_nil, true_and, eq_self, gt_iload_n, gt_ink, gw_nth, gt_iconst, gt_aload, gt_rfk, gt_get_r, gt_get_i, gt_get_z, gt_isub, gt_s1_0, gt_s2_0, gt_s3_0, gt_s4_0, gt_s1_1, gt_s2_1, gt_s3_1, gt_s4_1, gt_acpy, gt_if, gt_bipush, gt_iret, gt_retz, bkX10_program_34, ka0_0, ra0_0_0, ka0_1, kr_6_0, rr_6_0_0, kr_6_1, rr_6_1_0, rr_6_1_1, rr_6_1_2, kr_6_2, lr_6_2, kr_6_3, lr_6_3, kr_6_4, lr_6_4]
      obtain ⟨⟨r_11, μ_12⟩, e_13, h⟩ := gw_bnd h
      refine ⟨rfl, 0, 0, Nat.le_refl _, Nat.le_refl _, ok_X10_within e_13 ?_⟩
      intro hbr_11
      dsimp only at h
      simp only [gt_nil, true_and, eq_self, gt_if, gt_bipush, gt_iret, gt_retz, Option.toList, List.cons_append, List.nil_append, Nat.add_zero, ka0_0, ra0_0_0, ka0_1, kr_6_0, rr_6_0_0, kr_6_1, rr_6_1_0, rr_6_1_1, rr_6_1_2, kr_6_2, lr_6_2, kr_6_3, lr_6_3, kr_6_4, lr_6_4]
      refine ⟨fun c_15 => ?_, fun c_15 => ?_⟩
      · replace h := gw_ifp h c_15
        refine hK _ _ _ _ _ _ _ ?_
        rw [fdX10_program_52]
        simp only [gt_nil, true_and, eq_self, gt_iload_n, gt_ink, gw_nth, gt_tsw, gw_sw, bkX10_program_52, ka0_0, ra0_0_0, ka0_1, kr_6_0, rr_6_0_0, kr_6_1, rr_6_1_0, rr_6_1_1, rr_6_1_2, kr_6_2, lr_6_2, kr_6_3, lr_6_3, kr_6_4, lr_6_4]
        refine ⟨fun c_16 => ?_, fun c_16 => ?_⟩
        · replace h := gw_ifp h c_16
          refine hK _ _ _ _ _ _ _ ?_
          rw [fdX10_program_80]
          simp only [gt_nil, true_and, eq_self, gt_aload, gt_rfk, gw_nth, gt_get_r, gt_get_i, gt_get_z, gt_iload_n, gt_ink, gt_iaload, gt_iret, gt_retz, bkX10_program_80, ka0_0, ra0_0_0, ka0_1, kr_6_0, rr_6_0_0, kr_6_1, rr_6_1_0, rr_6_1_1, rr_6_1_2, kr_6_2, lr_6_2, kr_6_3, lr_6_3, kr_6_4, lr_6_4]
          obtain ⟨c_17, h⟩ := gw_ife h
          refine ⟨c_17, ?_⟩
          cases h
          exact ⟨Nat.le_refl _, Nat.le_refl _, hq⟩
        replace h := gw_ifn h c_16
        refine ⟨fun c_18 => ?_, fun c_18 => ?_⟩
        · replace h := gw_ifp h c_18
          refine hK _ _ _ _ _ _ _ ?_
          rw [fdX10_program_88]
          simp only [gt_nil, true_and, eq_self, gt_aload, gt_rfk, gw_nth, gt_get_r, gt_get_i, gt_get_z, gt_iload_n, gt_ink, gt_iaload, gt_iret, gt_retz, bkX10_program_88, ka0_0, ra0_0_0, ka0_1, kr_6_0, rr_6_0_0, kr_6_1, rr_6_1_0, rr_6_1_1, rr_6_1_2, kr_6_2, lr_6_2, kr_6_3, lr_6_3, kr_6_4, lr_6_4]
          obtain ⟨c_19, h⟩ := gw_ife h
          refine ⟨c_19, ?_⟩
          cases h
          exact ⟨Nat.le_refl _, Nat.le_refl _, hq⟩
        replace h := gw_ifn h c_18
        refine ⟨fun c_20 => ?_, fun c_20 => ?_⟩
        · replace h := gw_ifp h c_20
          refine hK _ _ _ _ _ _ _ ?_
          rw [fdX10_program_96]
          simp only [gt_nil, true_and, eq_self, gt_aload, gt_rfk, gw_nth, gt_get_r, gt_get_i, gt_get_z, gt_iload_n, gt_ink, gt_iaload, gt_iret, gt_retz, bkX10_program_96, ka0_0, ra0_0_0, ka0_1, kr_6_0, rr_6_0_0, kr_6_1, rr_6_1_0, rr_6_1_1, rr_6_1_2, kr_6_2, lr_6_2, kr_6_3, lr_6_3, kr_6_4, lr_6_4]
          obtain ⟨c_21, h⟩ := gw_ife h
          refine ⟨c_21, ?_⟩
          cases h
          exact ⟨Nat.le_refl _, Nat.le_refl _, hq⟩
        replace h := gw_ifn h c_20
        refine hK _ _ _ _ _ _ _ ?_
        rw [fdX10_program_104]
        simp only [gt_nil, true_and, eq_self, gt_bipush, gt_iret, gt_retz, bkX10_program_104, ka0_0, ra0_0_0, ka0_1, kr_6_0, rr_6_0_0, kr_6_1, rr_6_1_0, rr_6_1_1, rr_6_1_2, kr_6_2, lr_6_2, kr_6_3, lr_6_3, kr_6_4, lr_6_4]
        cases h
        exact ⟨Nat.le_refl _, Nat.le_refl _, hq⟩
      · replace h := gw_ifn h c_15
        cases h
        exact ⟨Nat.le_refl _, Nat.le_refl _, hq⟩
    · replace h := gw_ifn h c_10
      cases h
      exact ⟨Nat.le_refl _, Nat.le_refl _, hq⟩
  · replace h := gw_ifn h c_5
    cases h
    exact ⟨Nat.le_refl _, Nat.le_refl _, hq⟩
def F_X10_foretold_36 (n0 : Nat) (a0 : Nat) : Nat → Int32 → Int32 → Int32 → gw_M → Option (Int32 × gw_M)
  | 0, _, _, _, _ => none
  | n + 1, v1, v2, v3, μ => (if v1 ≤ v3 then (F_X3_figure n0 (a0 + 169) v2 μ).bind (fun (z_5 : Int32 × gw_M) => some (z_5.1, z_5.2)) else (F_X3_goOn n0 (a0 + 169) μ).bind (fun (μ_7 : gw_M) => gw_let (v3 + 1) (fun (w_10 : Int32) => F_X10_foretold_36 n0 a0 n v1 v2 w_10 μ_7)))
def F_X10_foretold (n0 : Nat) (a0 : Nat) (v1 : Int32) (v2 : Int32) (μ : gw_M) : Option (Int32 × gw_M) := (F_X10_mayGo n0 a0 v1 200 μ).bind (fun (z_4 : Int32 × gw_M) => (if z_4.1 = 0 then some ((-1), z_4.2) else (F_X10_within n0 v2 0 17 z_4.2).bind (fun (z_9 : Int32 × gw_M) => (if ¬ z_9.1 = 0 then (F_X3_copyFrom n0 (a0 + 169) (a0 + 1) z_9.2).bind (fun (μ_12 : gw_M) => F_X10_foretold_36 n0 a0 n0 v1 v2 0 μ_12) else some ((-1), z_9.2)))))
theorem B_X10_foretold_36 {l : Launch} {x : gw_C} {d : Nat} {S : gw_S} {Q : Option Value → gw_S → gw_M → Prop} {K : Nat → gw_Kt} (hK : gw_cl l x (d + 6) bsX10_foretold Q K) {a0 : Nat} (hS0 : gw_sh S 10 a0) {n0 : Nat} : ∀ {n : Nat} {v1 v2 v3} {μ : gw_M} {r μ'}, F_X10_foretold_36 n0 a0 n v1 v2 v3 μ = some (r, μ') → Q (some (.int r)) S μ' → K 36 [.ref a0, .int v1, .int v2, .int v3] [] S μ 0 0 := by
  have ka0_0 : gw_kd S a0 = 10 := (hS0 0 _ rfl).1
  have ra0_0_4 : gw_rf S a0 4 = a0 + 169 := (hS0 0 _ rfl).2.2 (4, 169) (by decide)
  have ka0_169 : gw_kd S (a0 + 169) = 3 := (hS0 169 _ rfl).1
  intro n
  induction n with
  | zero => intro v1 v2 v3 μ r μ' h hq; simp [F_X10_foretold_36] at h
  | succ n ih =>
    intro v1 v2 v3 μ r μ' h hq
    simp only [F_X10_foretold_36] at h
    refine hK _ _ _ _ _ _ _ ?_
    rw [fdX10_foretold_36]
    simp only [gt_nil, true_and, eq_self, gt_iload_n, gt_ink, gw_nth, gt_icmp, gt_aload_n, gt_rfk, gt_get_r, gt_get_i, gt_get_z, gt_v0, gt_v1, gt_v2, gt_v3, gt_v4, gt_v5, gt_iinc, gw_set, gt_goto, bkX10_foretold_36, ka0_0, ra0_0_4, ka0_169]
    refine ⟨fun c_1 => ?_, fun c_1 => ?_⟩
    · replace h := gw_ifp h c_1
      refine hK _ _ _ _ _ _ _ ?_
      rw [fdX10_foretold_54]
      simp only [gt_nil, true_and, eq_self, gt_aload_n, gt_rfk, gw_nth, gt_get_r, gt_get_i, gt_get_z, gt_iload_n, gt_ink, gt_v0, gt_v1, gt_v2, gt_v3, gt_v4, gt_v5, gt_iret, gt_retz, bkX10_foretold_54, ka0_0, ra0_0_4, ka0_169]
      obtain ⟨⟨r_2, μ_3⟩, e_4, h⟩ := gw_bnd h
      refine ⟨rfl, 0, 0, Nat.le_refl _, Nat.le_refl _, ok_X3_figure (gw_sub hS0 3 169 (by decide +kernel)) e_4 ?_⟩
      dsimp only at h
      simp only [gt_nil, true_and, eq_self, gt_iret, gt_retz, Option.toList, List.cons_append, List.nil_append, Nat.add_zero, ka0_0, ra0_0_4, ka0_169]
      cases h
      exact ⟨Nat.le_refl _, Nat.le_refl _, hq⟩
    · replace h := gw_ifn h c_1
      obtain ⟨μ_7, e_8, h⟩ := gw_bnd h
      refine ⟨rfl, 0, 0, Nat.le_refl _, Nat.le_refl _, ok_X3_goOn (gw_sub hS0 3 169 (by decide +kernel)) e_8 ?_⟩
      simp only [gt_nil, true_and, eq_self, gt_iinc, gt_ink, gw_nth, gw_set, gt_goto, Option.toList, List.cons_append, List.nil_append, Nat.add_zero, ka0_0, ra0_0_4, ka0_169]
      obtain ⟨w_10, hw_10, h⟩ := gw_lt h
      try rw [← hw_10]
      exact ih h hq
theorem ok_X10_foretold {l : Launch} {x : gw_C} {d : Nat} {S : gw_S} {Q : Option Value → gw_S → gw_M → Prop} {v1 v2 : Int32} {a0 : Nat} {n0 : Nat} {μ : gw_M} {r μ'} (hS0 : gw_sh S 10 a0) (h : F_X10_foretold n0 a0 v1 v2 μ = some (r, μ')) (hq : Q (some (.int r)) S μ') : gw_ok l x (d + 7) sgX10_foretold 0 0 [.ref a0, .int v1, .int v2] S μ Q := by
  refine gw_ok_of stX10_foretold (lv0 := [.ref a0, .int v1, .int v2, .retAddr 0]) (Nat.le_of_ble_eq_true rfl) rfl rfl ?_
  intro K hK
  have ka0_0 : gw_kd S a0 = 10 := (hS0 0 _ rfl).1
  have ra0_0_0 : gw_rf S a0 0 = a0 + 1 := (hS0 0 _ rfl).2.2 (0, 1) (by decide)
  have ra0_0_4 : gw_rf S a0 4 = a0 + 169 := (hS0 0 _ rfl).2.2 (4, 169) (by decide)
  have ka0_1 : gw_kd S (a0 + 1) = 3 := (hS0 1 _ rfl).1
  have ka0_169 : gw_kd S (a0 + 169) = 3 := (hS0 169 _ rfl).1
  unfold F_X10_foretold at h
  refine hK _ _ _ _ _ _ _ ?_
  rw [fdX10_foretold_0]
  simp only [gt_nil, true_and, eq_self, gt_aload_n, gt_rfk, gw_nth, gt_iload_n, gt_ink, gt_sipush, gt_v0, gt_v1, gt_v2, gt_v3, gt_v4, gt_v5, gt_if, gt_iconst, gt_bipush, gt_s1_0, gt_s2_0, gt_s3_0, gt_s4_0, gt_s1_1, gt_s2_1, gt_s3_1, gt_s4_1, gt_acpy, bkX10_foretold_0, ka0_0, ra0_0_0, ra0_0_4, ka0_1, ka0_169]
  obtain ⟨⟨r_1, μ_2⟩, e_3, h⟩ := gw_bnd h
  refine ⟨rfl, 0, 0, Nat.le_refl _, Nat.le_refl _, ok_X10_mayGo hS0 e_3 ?_⟩
  intro hbr_1
  dsimp only at h
  simp only [gt_nil, true_and, eq_self, gt_if, gt_iload_n, gt_ink, gw_nth, gt_iconst, gt_bipush, gt_s1_0, gt_s2_0, gt_s3_0, gt_s4_0, gt_s1_1, gt_s2_1, gt_s3_1, gt_s4_1, gt_acpy, Option.toList, List.cons_append, List.nil_append, Nat.add_zero, ka0_0, ra0_0_0, ra0_0_4, ka0_1, ka0_169]
  refine ⟨fun c_5 => ?_, fun c_5 => ?_⟩
  · replace h := gw_ifp h c_5
    refine hK _ _ _ _ _ _ _ ?_
    rw [fdX10_foretold_21]
    simp only [gt_nil, true_and, eq_self, gt_iconst, gt_iret, gt_retz, bkX10_foretold_21, ka0_0, ra0_0_0, ra0_0_4, ka0_1, ka0_169]
    cases h
    exact ⟨Nat.le_refl _, Nat.le_refl _, hq⟩
  · replace h := gw_ifn h c_5
    obtain ⟨⟨r_6, μ_7⟩, e_8, h⟩ := gw_bnd h
    refine ⟨rfl, 0, 0, Nat.le_refl _, Nat.le_refl _, ok_X10_within e_8 ?_⟩
    intro hbr_6
    dsimp only at h
    simp only [gt_nil, true_and, eq_self, gt_if, Option.toList, List.cons_append, List.nil_append, Nat.add_zero, ka0_0, ra0_0_0, ra0_0_4, ka0_1, ka0_169]
    refine ⟨fun c_10 => ?_, fun c_10 => ?_⟩
    · replace h := gw_ifp h c_10
      refine hK _ _ _ _ _ _ _ ?_
      rw [fdX10_foretold_23]
      simp only [gt_nil, true_and, eq_self, gt_aload_n, gt_rfk, gw_nth, gt_get_r, gt_get_i, gt_get_z, gt_v0, gt_v1, gt_v2, gt_v3, gt_v4, gt_v5, gt_iconst, gt_istore_n, gw_set, bkX10_foretold_23, ka0_0, ra0_0_0, ra0_0_4, ka0_1, ka0_169]
      obtain ⟨μ_12, e_13, h⟩ := gw_bnd h
      refine ⟨rfl, 0, 0, Nat.le_refl _, Nat.le_refl _, ok_X3_copyFrom (gw_sub hS0 3 169 (by decide +kernel)) (gw_sub hS0 3 1 (by decide +kernel)) e_13 ?_⟩
      simp only [gt_nil, true_and, eq_self, gt_iconst, gt_istore_n, gw_set, Option.toList, List.cons_append, List.nil_append, Nat.add_zero, ka0_0, ra0_0_0, ra0_0_4, ka0_1, ka0_169]
      exact B_X10_foretold_36 hK hS0 h hq
    · replace h := gw_ifn h c_10
      refine hK _ _ _ _ _ _ _ ?_
      rw [fdX10_foretold_21]
      simp only [gt_nil, true_and, eq_self, gt_iconst, gt_iret, gt_retz, bkX10_foretold_21, ka0_0, ra0_0_0, ra0_0_4, ka0_1, ka0_169]
      cases h
      exact ⟨Nat.le_refl _, Nat.le_refl _, hq⟩
