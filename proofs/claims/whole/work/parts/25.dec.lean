def F_X11_actOuter (n0 : Nat) (a0 : Nat) (v1 : Int32) (v2 : Int32) (v3 : Int32) (μ : gw_M) : Option (gw_M) := (if v1 = (6 : Int32) then (F_X11_enterNow n0 a0 μ).bind (fun (μ_3 : gw_M) => some μ_3) else (if v1 = ((6 : Int32) + 1) then (F_X11_layEntry n0 a0 1 v2 v3 7 μ).bind (fun (μ_8 : gw_M) => some μ_8) else (if v1 = (((6 : Int32) + 1) + 1) then (F_X11_pend n0 a0 2 v2 μ).bind (fun (μ_13 : gw_M) => some μ_13) else (if v1 = ((((6 : Int32) + 1) + 1) + 1) then (if (μ (a0 + 1) 16) = (-1) then some μ else (F_X11_layEntry n0 a0 1 (μ (a0 + 1) 16) v2 7 μ).bind (fun (μ_19 : gw_M) => some μ_19)) else (if v1 = (((((6 : Int32) + 1) + 1) + 1) + 1) then (gw_bi (F_X11_endNow n0 a0 1 μ) (fun (r_23 : Int32) (μ_24 : gw_M) => some μ_24)) else (if (μ (a0 + 1) 15) = v2 then some μ else (F_X11_handNow n0 a0 v2 μ).bind (fun (μ_29 : gw_M) => some μ_29)))))))
theorem ok_X11_actOuter {l : Launch} {x : gw_C} {d : Nat} {S : gw_S} {Q : Option Value → gw_S → gw_M → Prop} {v1 v2 v3 : Int32} {a0 : Nat} {n0 : Nat} {μ : gw_M} {μ'} (hS0 : gw_sh S 11 a0) (h : F_X11_actOuter n0 a0 v1 v2 v3 μ = some μ') (hq : Q none S μ') : gw_ok l x (d + 7) sgX11_actOuter 0 0 [.ref a0, .int v1, .int v2, .int v3] S μ Q := by
  refine gw_ok_of stX11_actOuter (lv0 := [.ref a0, .int v1, .int v2, .int v3]) (Nat.le_of_ble_eq_true rfl) rfl rfl ?_
  intro K hK
  have hcc : 0 ≤ 0 := Nat.zero_le _
  have hss : 0 ≤ 0 := Nat.zero_le _
  have ka0_0 : gw_kd S a0 = 11 := (hS0 0 _ rfl).1
  have ra0_0_0 : gw_rf S a0 0 = a0 + 1 := (hS0 0 _ rfl).2.2 (0, 1) (by decide)
  have ka0_1 : gw_kd S (a0 + 1) = 12 := (hS0 1 _ rfl).1
  have la0_1 : gw_ln S (a0 + 1) = 20813 := (hS0 1 _ rfl).2.1
  unfold F_X11_actOuter at h
  refine hK _ _ _ _ _ _ _ ?_
  rw [fdX11_actOuter_0]
  simp only [gt_nil, true_and, eq_self, gt_iload_n, gt_ink, gw_nth, gt_tsw, gw_sw, bkX11_actOuter_0, ka0_0, ra0_0_0, ka0_1, la0_1, (show Int32.toNatClampNeg 15 = 15 from rfl), (show Int32.toNatClampNeg 16 = 16 from rfl)]
  refine ⟨fun c_1 => ?_, fun c_1 => ?_⟩
  · replace h := gw_ifp h c_1
    refine hK _ _ _ _ _ _ _ ?_
    rw [fdX11_actOuter_36]
    simp only [gt_nil, true_and, eq_self, gt_aload_n, gt_rfk, gw_nth, gt_v0, gt_v1, gt_v2, gt_v3, gt_v4, gt_v5, gt_goto, bkX11_actOuter_36, ka0_0, ra0_0_0, ka0_1, la0_1, (show Int32.toNatClampNeg 15 = 15 from rfl), (show Int32.toNatClampNeg 16 = 16 from rfl)]
    obtain ⟨μ_3, e_4, h⟩ := gw_bnd h
    refine ⟨rfl, 0, 0, hcc, hss, ok_X11_enterNow hS0 e_4 ?_⟩
    simp only [gt_nil, true_and, eq_self, gt_goto, Option.toList, List.cons_append, List.nil_append, Nat.add_zero, ka0_0, ra0_0_0, ka0_1, la0_1, (show Int32.toNatClampNeg 15 = 15 from rfl), (show Int32.toNatClampNeg 16 = 16 from rfl)]
    refine hK _ _ _ _ _ _ _ ?_
    rw [fdX11_actOuter_118]
    simp only [gt_nil, true_and, eq_self, gt_vret, bkX11_actOuter_118, ka0_0, ra0_0_0, ka0_1, la0_1, (show Int32.toNatClampNeg 15 = 15 from rfl), (show Int32.toNatClampNeg 16 = 16 from rfl)]
    obtain rfl := gw_inj1 h
    exact ⟨hcc, hss, hq⟩
  replace h := gw_ifn h c_1
  refine ⟨fun c_6 => ?_, fun c_6 => ?_⟩
  · replace h := gw_ifp h c_6
    refine hK _ _ _ _ _ _ _ ?_
    rw [fdX11_actOuter_43]
    simp only [gt_nil, true_and, eq_self, gt_aload_n, gt_rfk, gw_nth, gt_iconst, gt_iload_n, gt_ink, gt_bipush, gt_v0, gt_v1, gt_v2, gt_v3, gt_v4, gt_v5, gt_goto, bkX11_actOuter_43, ka0_0, ra0_0_0, ka0_1, la0_1, (show Int32.toNatClampNeg 15 = 15 from rfl), (show Int32.toNatClampNeg 16 = 16 from rfl)]
    obtain ⟨μ_8, e_9, h⟩ := gw_bnd h
    refine ⟨rfl, 0, 0, hcc, hss, ok_X11_layEntry hS0 e_9 ?_⟩
    simp only [gt_nil, true_and, eq_self, gt_goto, Option.toList, List.cons_append, List.nil_append, Nat.add_zero, ka0_0, ra0_0_0, ka0_1, la0_1, (show Int32.toNatClampNeg 15 = 15 from rfl), (show Int32.toNatClampNeg 16 = 16 from rfl)]
    refine hK _ _ _ _ _ _ _ ?_
    rw [fdX11_actOuter_118]
    simp only [gt_nil, true_and, eq_self, gt_vret, bkX11_actOuter_118, ka0_0, ra0_0_0, ka0_1, la0_1, (show Int32.toNatClampNeg 15 = 15 from rfl), (show Int32.toNatClampNeg 16 = 16 from rfl)]
    obtain rfl := gw_inj1 h
    exact ⟨hcc, hss, hq⟩
  replace h := gw_ifn h c_6
  refine ⟨fun c_11 => ?_, fun c_11 => ?_⟩
  · replace h := gw_ifp h c_11
    refine hK _ _ _ _ _ _ _ ?_
    rw [fdX11_actOuter_55]
    simp only [gt_nil, true_and, eq_self, gt_aload_n, gt_rfk, gw_nth, gt_iconst, gt_iload_n, gt_ink, gt_v0, gt_v1, gt_v2, gt_v3, gt_v4, gt_v5, gt_goto, bkX11_actOuter_55, ka0_0, ra0_0_0, ka0_1, la0_1, (show Int32.toNatClampNeg 15 = 15 from rfl), (show Int32.toNatClampNeg 16 = 16 from rfl)]
    obtain ⟨μ_13, e_14, h⟩ := gw_bnd h
    refine ⟨rfl, 0, 0, hcc, hss, ok_X11_pend hS0 e_14 ?_⟩
    simp only [gt_nil, true_and, eq_self, gt_goto, Option.toList, List.cons_append, List.nil_append, Nat.add_zero, ka0_0, ra0_0_0, ka0_1, la0_1, (show Int32.toNatClampNeg 15 = 15 from rfl), (show Int32.toNatClampNeg 16 = 16 from rfl)]
    refine hK _ _ _ _ _ _ _ ?_
    rw [fdX11_actOuter_118]
    simp only [gt_nil, true_and, eq_self, gt_vret, bkX11_actOuter_118, ka0_0, ra0_0_0, ka0_1, la0_1, (show Int32.toNatClampNeg 15 = 15 from rfl), (show Int32.toNatClampNeg 16 = 16 from rfl)]
    obtain rfl := gw_inj1 h
    exact ⟨hcc, hss, hq⟩
  replace h := gw_ifn h c_11
  refine ⟨fun c_16 => ?_, fun c_16 => ?_⟩
  · replace h := gw_ifp h c_16
    refine hK _ _ _ _ _ _ _ ?_
    rw [fdX11_actOuter_64]
    simp only [gt_nil, true_and, eq_self, gt_aload_n, gt_rfk, gw_nth, gt_get_r, gt_get_i, gt_get_z, gt_bipush, gt_iaload, gt_iconst, gt_icmp, gt_iload_n, gt_ink, gt_v0, gt_v1, gt_v2, gt_v3, gt_v4, gt_v5, gt_goto, bkX11_actOuter_64, ka0_0, ra0_0_0, ka0_1, la0_1, (show Int32.toNatClampNeg 15 = 15 from rfl), (show Int32.toNatClampNeg 16 = 16 from rfl)]
    refine ⟨(⟨by decide, by decide⟩ : gw_in 16 20813), ?_⟩
    refine ⟨fun c_17 => ?_, fun c_17 => ?_⟩
    · replace h := gw_ifp2 (gw_c2_eq _ _) h c_17
      refine hK _ _ _ _ _ _ _ ?_
      rw [fdX11_actOuter_118]
      simp only [gt_nil, true_and, eq_self, gt_vret, bkX11_actOuter_118, ka0_0, ra0_0_0, ka0_1, la0_1, (show Int32.toNatClampNeg 15 = 15 from rfl), (show Int32.toNatClampNeg 16 = 16 from rfl)]
      obtain rfl := gw_inj1 h
      exact ⟨hcc, hss, hq⟩
    · replace h := gw_ifn2 (gw_c2_eq _ _) h c_17
      refine ⟨(⟨by decide, by decide⟩ : gw_in 16 20813), ?_⟩
      obtain ⟨μ_19, e_20, h⟩ := gw_bnd h
      refine ⟨rfl, 0, 0, hcc, hss, ok_X11_layEntry hS0 e_20 ?_⟩
      simp only [gt_nil, true_and, eq_self, gt_goto, Option.toList, List.cons_append, List.nil_append, Nat.add_zero, ka0_0, ra0_0_0, ka0_1, la0_1, (show Int32.toNatClampNeg 15 = 15 from rfl), (show Int32.toNatClampNeg 16 = 16 from rfl)]
      refine hK _ _ _ _ _ _ _ ?_
      rw [fdX11_actOuter_118]
      simp only [gt_nil, true_and, eq_self, gt_vret, bkX11_actOuter_118, ka0_0, ra0_0_0, ka0_1, la0_1, (show Int32.toNatClampNeg 15 = 15 from rfl), (show Int32.toNatClampNeg 16 = 16 from rfl)]
      obtain rfl := gw_inj1 h
      exact ⟨hcc, hss, hq⟩
  replace h := gw_ifn h c_16
  refine ⟨fun c_22 => ?_, fun c_22 => ?_⟩
  · replace h := gw_ifp h c_22
    refine hK _ _ _ _ _ _ _ ?_
    rw [fdX11_actOuter_93]
    simp only [gt_nil, true_and, eq_self, gt_aload_n, gt_rfk, gw_nth, gt_iconst, gt_v0, gt_v1, gt_v2, gt_v3, gt_v4, gt_v5, gt_pop_i, gt_pop_r, gt_goto, bkX11_actOuter_93, ka0_0, ra0_0_0, ka0_1, la0_1, (show Int32.toNatClampNeg 15 = 15 from rfl), (show Int32.toNatClampNeg 16 = 16 from rfl)]
    obtain ⟨r_23, μ_24, e_25, h⟩ := gw_bnd2 h
    refine ⟨rfl, 0, 0, hcc, hss, ok_X11_endNow hS0 e_25 ?_⟩
    simp only [gt_nil, true_and, eq_self, gt_pop_i, gt_pop_r, gt_goto, Option.toList, List.cons_append, List.nil_append, Nat.add_zero, ka0_0, ra0_0_0, ka0_1, la0_1, (show Int32.toNatClampNeg 15 = 15 from rfl), (show Int32.toNatClampNeg 16 = 16 from rfl)]
    refine hK _ _ _ _ _ _ _ ?_
    rw [fdX11_actOuter_118]
    simp only [gt_nil, true_and, eq_self, gt_vret, bkX11_actOuter_118, ka0_0, ra0_0_0, ka0_1, la0_1, (show Int32.toNatClampNeg 15 = 15 from rfl), (show Int32.toNatClampNeg 16 = 16 from rfl)]
    obtain rfl := gw_inj1 h
    exact ⟨hcc, hss, hq⟩
  replace h := gw_ifn h c_22
  refine hK _ _ _ _ _ _ _ ?_
  rw [fdX11_actOuter_102]
  simp only [gt_nil, true_and, eq_self, gt_aload_n, gt_rfk, gw_nth, gt_get_r, gt_get_i, gt_get_z, gt_bipush, gt_iaload, gt_iload_n, gt_ink, gt_icmp, gt_v0, gt_v1, gt_v2, gt_v3, gt_v4, gt_v5, bkX11_actOuter_102, ka0_0, ra0_0_0, ka0_1, la0_1, (show Int32.toNatClampNeg 15 = 15 from rfl), (show Int32.toNatClampNeg 16 = 16 from rfl)]
  refine ⟨(⟨by decide, by decide⟩ : gw_in 15 20813), ?_⟩
  refine ⟨fun c_27 => ?_, fun c_27 => ?_⟩
  · replace h := gw_ifp2 (gw_c2_eq _ _) h c_27
    refine hK _ _ _ _ _ _ _ ?_
    rw [fdX11_actOuter_118]
    simp only [gt_nil, true_and, eq_self, gt_vret, bkX11_actOuter_118, ka0_0, ra0_0_0, ka0_1, la0_1, (show Int32.toNatClampNeg 15 = 15 from rfl), (show Int32.toNatClampNeg 16 = 16 from rfl)]
    obtain rfl := gw_inj1 h
    exact ⟨hcc, hss, hq⟩
  · replace h := gw_ifn2 (gw_c2_eq _ _) h c_27
    obtain ⟨μ_29, e_30, h⟩ := gw_bnd h
    refine ⟨rfl, 0, 0, hcc, hss, ok_X11_handNow hS0 e_30 ?_⟩
    simp only [gt_nil, true_and, eq_self, Option.toList, List.cons_append, List.nil_append, Nat.add_zero, ka0_0, ra0_0_0, ka0_1, la0_1, (show Int32.toNatClampNeg 15 = 15 from rfl), (show Int32.toNatClampNeg 16 = 16 from rfl)]
    refine hK _ _ _ _ _ _ _ ?_
    rw [fdX11_actOuter_118]
    simp only [gt_nil, true_and, eq_self, gt_vret, bkX11_actOuter_118, ka0_0, ra0_0_0, ka0_1, la0_1, (show Int32.toNatClampNeg 15 = 15 from rfl), (show Int32.toNatClampNeg 16 = 16 from rfl)]
    obtain rfl := gw_inj1 h
    exact ⟨hcc, hss, hq⟩
def F_X11_hasPlace (n0 : Nat) (a0 : Nat) (v1 : Int32) (v2 : Int32) (μ : gw_M) : Option (Int32) := (if 0 ≤ (v1 + (6 : Int32)) ∧ (v1 + (6 : Int32)).toNatClampNeg < 20813 then (F_X11_isIn n0 v2 0 ((μ (a0 + 1) (v1 + (6 : Int32)).toNatClampNeg) - (1 : Int32)) μ).bind (fun (r_2 : Int32) => some r_2) else none)
theorem ok_X11_hasPlace {l : Launch} {x : gw_C} {d : Nat} {S : gw_S} {Q : Option Value → gw_S → gw_M → Prop} {v1 v2 : Int32} {a0 : Nat} {n0 : Nat} {μ : gw_M} {r} (hS0 : gw_sh S 11 a0) (h : F_X11_hasPlace n0 a0 v1 v2 μ = some r) (hq : ((r = 0 ∨ r = 1) → Q (some (.int r)) S μ)) : gw_ok l x (d + 2) sgX11_hasPlace 0 0 [.ref a0, .int v1, .int v2] S μ Q := by
  refine gw_ok_of stX11_hasPlace (lv0 := [.ref a0, .int v1, .int v2]) (Nat.le_of_ble_eq_true rfl) rfl rfl ?_
  intro K hK
  have hcc : 0 ≤ 0 := Nat.zero_le _
  have hss : 0 ≤ 0 := Nat.zero_le _
  have ka0_0 : gw_kd S a0 = 11 := (hS0 0 _ rfl).1
  have ra0_0_0 : gw_rf S a0 0 = a0 + 1 := (hS0 0 _ rfl).2.2 (0, 1) (by decide)
  have ka0_1 : gw_kd S (a0 + 1) = 12 := (hS0 1 _ rfl).1
  have la0_1 : gw_ln S (a0 + 1) = 20813 := (hS0 1 _ rfl).2.1
  unfold F_X11_hasPlace at h
  refine hK _ _ _ _ _ _ _ ?_
  rw [fdX11_hasPlace_0]
  simp only [gt_nil, true_and, eq_self, gt_iload_n, gt_ink, gw_nth, gt_iconst, gt_aload_n, gt_rfk, gt_get_r, gt_get_i, gt_get_z, gt_bipush, gt_iadd, gt_iaload, gt_isub, gt_s1_0, gt_s2_0, gt_s3_0, gt_s4_0, gt_s1_1, gt_s2_1, gt_s3_1, gt_s4_1, gt_acpy, gt_iret, gt_retz, bkX11_hasPlace_0, ka0_0, ra0_0_0, ka0_1, la0_1]
  obtain ⟨c_1, h⟩ := gw_ife h
  refine ⟨c_1, ?_⟩
  obtain ⟨r_2, e_4, h⟩ := gw_bnd h
  refine ⟨rfl, 0, 0, hcc, hss, ok_X11_isIn e_4 ?_⟩
  intro hbr_2
  simp only [gt_nil, true_and, eq_self, gt_iret, gt_retz, Option.toList, List.cons_append, List.nil_append, Nat.add_zero, ka0_0, ra0_0_0, ka0_1, la0_1]
  obtain rfl := gw_inj1 h
  exact ⟨hbr_2, hcc, hss, hq hbr_2⟩
def F_X11_actInner (n0 : Nat) (a0 : Nat) (v1 : Int32) (v2 : Int32) (v3 : Int32) (μ : gw_M) : Option (gw_M) := (F_X11_guestAt n0 a0 2 μ).bind (fun (r_1 : Int32) => (if v1 = (6 : Int32) then (F_X11_layEntry n0 a0 0 v2 v3 7 μ).bind (fun (μ_7 : gw_M) => some μ_7) else (if v1 = ((6 : Int32) + 1) then (gw_bi (F_X11_endNow n0 a0 2 μ) (fun (r_11 : Int32) (μ_12 : gw_M) => some μ_12)) else (if v1 = (((6 : Int32) + 1) + 1) then (if 0 ≤ (r_1 + (144 : Int32)) ∧ (r_1 + (144 : Int32)).toNatClampNeg < 20813 then (if (μ (a0 + 1) (r_1 + (144 : Int32)).toNatClampNeg) = (-1) then some μ else (if 0 ≤ (r_1 + (144 : Int32)) ∧ (r_1 + (144 : Int32)).toNatClampNeg < 20813 then (F_X11_layEntry n0 a0 0 (μ (a0 + 1) (r_1 + (144 : Int32)).toNatClampNeg) v2 7 μ).bind (fun (μ_20 : gw_M) => some μ_20) else none)) else none) else (if 0 ≤ ((r_1 + (144 : Int32)) + (1 : Int32)) ∧ ((r_1 + (144 : Int32)) + (1 : Int32)).toNatClampNeg < 20813 then (F_X11_hasPlace n0 a0 r_1 (μ (a0 + 1) ((r_1 + (144 : Int32)) + (1 : Int32)).toNatClampNeg) μ).bind (fun (r_24 : Int32) => (if r_24 = 0 then some μ else (if 0 ≤ ((r_1 + (144 : Int32)) + (1 : Int32)) ∧ ((r_1 + (144 : Int32)) + (1 : Int32)).toNatClampNeg < 20813 then (if 0 ≤ (r_1 + (5 : Int32)) ∧ (r_1 + (5 : Int32)).toNatClampNeg < 20813 then gw_let (gw_up μ (a0 + 1) (r_1 + (5 : Int32)).toNatClampNeg (μ (a0 + 1) ((r_1 + (144 : Int32)) + (1 : Int32)).toNatClampNeg)) (fun (μ_31 : gw_M) => some μ_31) else none) else none))) else none)))))
theorem ok_X11_actInner {l : Launch} {x : gw_C} {d : Nat} {S : gw_S} {Q : Option Value → gw_S → gw_M → Prop} {v1 v2 v3 : Int32} {a0 : Nat} {n0 : Nat} {μ : gw_M} {μ'} (hS0 : gw_sh S 11 a0) (h : F_X11_actInner n0 a0 v1 v2 v3 μ = some μ') (hq : Q none S μ') : gw_ok l x (d + 7) sgX11_actInner 0 0 [.ref a0, .int v1, .int v2, .int v3] S μ Q := by
  refine gw_ok_of stX11_actInner (lv0 := [.ref a0, .int v1, .int v2, .int v3, .retAddr 0]) (Nat.le_of_ble_eq_true rfl) rfl rfl ?_
  intro K hK
  have hcc : 0 ≤ 0 := Nat.zero_le _
  have hss : 0 ≤ 0 := Nat.zero_le _
  have ka0_0 : gw_kd S a0 = 11 := (hS0 0 _ rfl).1
  have ra0_0_0 : gw_rf S a0 0 = a0 + 1 := (hS0 0 _ rfl).2.2 (0, 1) (by decide)
  have ka0_1 : gw_kd S (a0 + 1) = 12 := (hS0 1 _ rfl).1
  have la0_1 : gw_ln S (a0 + 1) = 20813 := (hS0 1 _ rfl).2.1
  unfold F_X11_actInner at h
  refine hK _ _ _ _ _ _ _ ?_
  rw [fdX11_actInner_0]
  simp only [gt_nil, true_and, eq_self, gt_aload_n, gt_rfk, gw_nth, gt_iconst, gt_v0, gt_v1, gt_v2, gt_v3, gt_v4, gt_v5, gt_istore, gw_set, gt_iload_n, gt_ink, gt_tsw, gw_sw, bkX11_actInner_0, ka0_0, ra0_0_0, ka0_1, la0_1]
  obtain ⟨r_1, e_3, h⟩ := gw_bnd h
  refine ⟨rfl, 0, 0, hcc, hss, ok_X11_guestAt hS0 e_3 ?_⟩
  simp only [gt_nil, true_and, eq_self, gt_istore, gw_set, gt_iload_n, gt_ink, gw_nth, gt_tsw, gw_sw, Option.toList, List.cons_append, List.nil_append, Nat.add_zero, ka0_0, ra0_0_0, ka0_1, la0_1]
  refine ⟨fun c_5 => ?_, fun c_5 => ?_⟩
  · replace h := gw_ifp h c_5
    refine hK _ _ _ _ _ _ _ ?_
    rw [fdX11_actInner_36]
    simp only [gt_nil, true_and, eq_self, gt_aload_n, gt_rfk, gw_nth, gt_iconst, gt_iload_n, gt_ink, gt_bipush, gt_v0, gt_v1, gt_v2, gt_v3, gt_v4, gt_v5, gt_goto, bkX11_actInner_36, ka0_0, ra0_0_0, ka0_1, la0_1]
    obtain ⟨μ_7, e_8, h⟩ := gw_bnd h
    refine ⟨rfl, 0, 0, hcc, hss, ok_X11_layEntry hS0 e_8 ?_⟩
    simp only [gt_nil, true_and, eq_self, gt_goto, Option.toList, List.cons_append, List.nil_append, Nat.add_zero, ka0_0, ra0_0_0, ka0_1, la0_1]
    refine hK _ _ _ _ _ _ _ ?_
    rw [fdX11_actInner_138]
    simp only [gt_nil, true_and, eq_self, gt_vret, bkX11_actInner_138, ka0_0, ra0_0_0, ka0_1, la0_1]
    obtain rfl := gw_inj1 h
    exact ⟨hcc, hss, hq⟩
  replace h := gw_ifn h c_5
  refine ⟨fun c_10 => ?_, fun c_10 => ?_⟩
  · replace h := gw_ifp h c_10
    refine hK _ _ _ _ _ _ _ ?_
    rw [fdX11_actInner_48]
    simp only [gt_nil, true_and, eq_self, gt_aload_n, gt_rfk, gw_nth, gt_iconst, gt_v0, gt_v1, gt_v2, gt_v3, gt_v4, gt_v5, gt_pop_i, gt_pop_r, gt_goto, bkX11_actInner_48, ka0_0, ra0_0_0, ka0_1, la0_1]
    obtain ⟨r_11, μ_12, e_13, h⟩ := gw_bnd2 h
    refine ⟨rfl, 0, 0, hcc, hss, ok_X11_endNow hS0 e_13 ?_⟩
    simp only [gt_nil, true_and, eq_self, gt_pop_i, gt_pop_r, gt_goto, Option.toList, List.cons_append, List.nil_append, Nat.add_zero, ka0_0, ra0_0_0, ka0_1, la0_1]
    refine hK _ _ _ _ _ _ _ ?_
    rw [fdX11_actInner_138]
    simp only [gt_nil, true_and, eq_self, gt_vret, bkX11_actInner_138, ka0_0, ra0_0_0, ka0_1, la0_1]
    obtain rfl := gw_inj1 h
    exact ⟨hcc, hss, hq⟩
  replace h := gw_ifn h c_10
  refine ⟨fun c_15 => ?_, fun c_15 => ?_⟩
  · replace h := gw_ifp h c_15
    refine hK _ _ _ _ _ _ _ ?_
    rw [fdX11_actInner_57]
    simp only [gt_nil, true_and, eq_self, gt_aload_n, gt_rfk, gw_nth, gt_get_r, gt_get_i, gt_get_z, gt_iload, gt_ink, gt_sipush, gt_iadd, gt_iaload, gt_iconst, gt_icmp, gt_iload_n, gt_bipush, gt_v0, gt_v1, gt_v2, gt_v3, gt_v4, gt_v5, gt_goto, bkX11_actInner_57, ka0_0, ra0_0_0, ka0_1, la0_1]
    obtain ⟨c_16, h⟩ := gw_ife h
    refine ⟨c_16, ?_⟩
    refine ⟨fun c_17 => ?_, fun c_17 => ?_⟩
    · replace h := gw_ifp2 (gw_c2_eq _ _) h c_17
      refine hK _ _ _ _ _ _ _ ?_
      rw [fdX11_actInner_138]
      simp only [gt_nil, true_and, eq_self, gt_vret, bkX11_actInner_138, ka0_0, ra0_0_0, ka0_1, la0_1]
      obtain rfl := gw_inj1 h
      exact ⟨hcc, hss, hq⟩
    · replace h := gw_ifn2 (gw_c2_eq _ _) h c_17
      obtain ⟨c_18, h⟩ := gw_ife h
      refine ⟨c_18, ?_⟩
      obtain ⟨μ_20, e_21, h⟩ := gw_bnd h
      refine ⟨rfl, 0, 0, hcc, hss, ok_X11_layEntry hS0 e_21 ?_⟩
      simp only [gt_nil, true_and, eq_self, gt_goto, Option.toList, List.cons_append, List.nil_append, Nat.add_zero, ka0_0, ra0_0_0, ka0_1, la0_1]
      refine hK _ _ _ _ _ _ _ ?_
      rw [fdX11_actInner_138]
      simp only [gt_nil, true_and, eq_self, gt_vret, bkX11_actInner_138, ka0_0, ra0_0_0, ka0_1, la0_1]
      obtain rfl := gw_inj1 h
      exact ⟨hcc, hss, hq⟩
  replace h := gw_ifn h c_15
  refine hK _ _ _ _ _ _ _ ?_
  rw [fdX11_actInner_94]
  simp only [gt_nil, true_and, eq_self, gt_aload_n, gt_rfk, gw_nth, gt_iload, gt_ink, gt_get_r, gt_get_i, gt_get_z, gt_sipush, gt_iadd, gt_iconst, gt_iaload, gt_v0, gt_v1, gt_v2, gt_v3, gt_v4, gt_v5, gt_if, gt_iastore, bkX11_actInner_94, ka0_0, ra0_0_0, ka0_1, la0_1]
  obtain ⟨c_23, h⟩ := gw_ife h
  refine ⟨c_23, ?_⟩
  obtain ⟨r_24, e_26, h⟩ := gw_bnd h
  refine ⟨rfl, 0, 0, hcc, hss, ok_X11_hasPlace hS0 e_26 ?_⟩
  intro hbr_24
  simp only [gt_nil, true_and, eq_self, gt_if, gt_aload_n, gt_rfk, gw_nth, gt_get_r, gt_get_i, gt_get_z, gt_iload, gt_ink, gt_iconst, gt_iadd, gt_sipush, gt_iaload, gt_iastore, Option.toList, List.cons_append, List.nil_append, Nat.add_zero, ka0_0, ra0_0_0, ka0_1, la0_1]
  refine ⟨fun c_28 => ?_, fun c_28 => ?_⟩
  · replace h := gw_ifp h c_28
    refine hK _ _ _ _ _ _ _ ?_
    rw [fdX11_actInner_138]
    simp only [gt_nil, true_and, eq_self, gt_vret, bkX11_actInner_138, ka0_0, ra0_0_0, ka0_1, la0_1]
    obtain rfl := gw_inj1 h
    exact ⟨hcc, hss, hq⟩
  · replace h := gw_ifn h c_28
    obtain ⟨c_29, h⟩ := gw_ife h
    refine ⟨c_29, ?_⟩
    obtain ⟨c_30, h⟩ := gw_ife h
    refine ⟨c_30, ?_⟩
    obtain ⟨μ_31, hμ_31, h⟩ := gw_lt h
    try rw [← hμ_31]
    refine hK _ _ _ _ _ _ _ ?_
    rw [fdX11_actInner_138]
    simp only [gt_nil, true_and, eq_self, gt_vret, bkX11_actInner_138, ka0_0, ra0_0_0, ka0_1, la0_1]
    obtain rfl := gw_inj1 h
    exact ⟨hcc, hss, hq⟩
def F_X11_goOnBy (n0 : Nat) (a0 : Nat) (v1 : Int32) (v2 : Int32) (v3 : Int32) (v4 : Int32) (μ : gw_M) : Option (gw_M) := (if ¬ v3 = (-3) then (if ¬ v4 = 0 then (if 0 ≤ ((v1 + (144 : Int32)) + (1 : Int32)) ∧ ((v1 + (144 : Int32)) + (1 : Int32)).toNatClampNeg < 20813 then gw_let (gw_up μ (a0 + 1) ((v1 + (144 : Int32)) + (1 : Int32)).toNatClampNeg v2) (fun (μ_4 : gw_M) => (if 0 ≤ (v1 + (143 : Int32)) ∧ (v1 + (143 : Int32)).toNatClampNeg < 20813 then (F_X11_hasPlace n0 a0 v1 (μ_4 (a0 + 1) (v1 + (143 : Int32)).toNatClampNeg) μ_4).bind (fun (r_6 : Int32) => (if r_6 = 0 then some μ_4 else (if 0 ≤ (v1 + (143 : Int32)) ∧ (v1 + (143 : Int32)).toNatClampNeg < 20813 then (if 0 ≤ (v1 + (5 : Int32)) ∧ (v1 + (5 : Int32)).toNatClampNeg < 20813 then gw_let (gw_up μ_4 (a0 + 1) (v1 + (5 : Int32)).toNatClampNeg (μ_4 (a0 + 1) (v1 + (143 : Int32)).toNatClampNeg)) (fun (μ_13 : gw_M) => some μ_13) else none) else none))) else none)) else none) else some μ) else (if 0 ≤ (v1 + (5 : Int32)) ∧ (v1 + (5 : Int32)).toNatClampNeg < 20813 then gw_let (gw_up μ (a0 + 1) (v1 + (5 : Int32)).toNatClampNeg v2) (fun (μ_15 : gw_M) => (if ¬ v4 = 0 then (if 0 ≤ ((v1 + (144 : Int32)) + (1 : Int32)) ∧ ((v1 + (144 : Int32)) + (1 : Int32)).toNatClampNeg < 20813 then gw_let (gw_up μ_15 (a0 + 1) ((v1 + (144 : Int32)) + (1 : Int32)).toNatClampNeg v2) (fun (μ_18 : gw_M) => (if 0 ≤ (v1 + (143 : Int32)) ∧ (v1 + (143 : Int32)).toNatClampNeg < 20813 then (F_X11_hasPlace n0 a0 v1 (μ_18 (a0 + 1) (v1 + (143 : Int32)).toNatClampNeg) μ_18).bind (fun (r_20 : Int32) => (if r_20 = 0 then some μ_18 else (if 0 ≤ (v1 + (143 : Int32)) ∧ (v1 + (143 : Int32)).toNatClampNeg < 20813 then (if 0 ≤ (v1 + (5 : Int32)) ∧ (v1 + (5 : Int32)).toNatClampNeg < 20813 then gw_let (gw_up μ_18 (a0 + 1) (v1 + (5 : Int32)).toNatClampNeg (μ_18 (a0 + 1) (v1 + (143 : Int32)).toNatClampNeg)) (fun (μ_27 : gw_M) => some μ_27) else none) else none))) else none)) else none) else some μ_15)) else none))
theorem ok_X11_goOnBy {l : Launch} {x : gw_C} {d : Nat} {S : gw_S} {Q : Option Value → gw_S → gw_M → Prop} {v1 v2 v3 v4 : Int32} {a0 : Nat} {n0 : Nat} {μ : gw_M} {μ'} (hS0 : gw_sh S 11 a0) (hz4 : v4 = 0 ∨ v4 = 1) (h : F_X11_goOnBy n0 a0 v1 v2 v3 v4 μ = some μ') (hq : Q none S μ') : gw_ok l x (d + 3) sgX11_goOnBy 0 0 [.ref a0, .int v1, .int v2, .int v3, .int v4] S μ Q := by
  refine gw_ok_of stX11_goOnBy (lv0 := [.ref a0, .int v1, .int v2, .int v3, .int v4]) (Nat.le_of_ble_eq_true rfl) rfl rfl ?_
  intro K hK
  have hcc : 0 ≤ 0 := Nat.zero_le _
  have hss : 0 ≤ 0 := Nat.zero_le _
  have ka0_0 : gw_kd S a0 = 11 := (hS0 0 _ rfl).1
  have ra0_0_0 : gw_rf S a0 0 = a0 + 1 := (hS0 0 _ rfl).2.2 (0, 1) (by decide)
  have ka0_1 : gw_kd S (a0 + 1) = 12 := (hS0 1 _ rfl).1
  have la0_1 : gw_ln S (a0 + 1) = 20813 := (hS0 1 _ rfl).2.1
  unfold F_X11_goOnBy at h
  refine hK _ _ _ _ _ _ _ ?_
  rw [fdX11_goOnBy_0]
  simp only [gt_nil, true_and, eq_self, gt_iload_n, gt_ink, gw_nth, gt_bipush, gt_icmp, gt_aload_n, gt_rfk, gt_get_r, gt_get_i, gt_get_z, gt_iconst, gt_iadd, gt_iastore, bkX11_goOnBy_0, ka0_0, ra0_0_0, ka0_1, la0_1]
  refine ⟨fun c_1 => ?_, fun c_1 => ?_⟩
  · replace h := gw_ifp2 (gw_c2_ne _ _) h c_1
    refine hK _ _ _ _ _ _ _ ?_
    rw [fdX11_goOnBy_15]
    simp only [gt_nil, true_and, eq_self, gt_iload, gt_ink, gw_nth, gt_if, gt_vret, bkX11_goOnBy_15, ka0_0, ra0_0_0, ka0_1, la0_1]
    refine ⟨fun c_2 => ?_, fun c_2 => ?_⟩
    · replace h := gw_ifp h c_2
      refine hK _ _ _ _ _ _ _ ?_
      rw [fdX11_goOnBy_21]
      simp only [gt_nil, true_and, eq_self, gt_aload_n, gt_rfk, gw_nth, gt_get_r, gt_get_i, gt_get_z, gt_iload_n, gt_ink, gt_sipush, gt_iadd, gt_iconst, gt_iastore, gt_iaload, gt_v0, gt_v1, gt_v2, gt_v3, gt_v4, gt_v5, gt_if, bkX11_goOnBy_21, ka0_0, ra0_0_0, ka0_1, la0_1]
      obtain ⟨c_3, h⟩ := gw_ife h
      refine ⟨c_3, ?_⟩
      obtain ⟨μ_4, hμ_4, h⟩ := gw_lt h
      try rw [← hμ_4]
      obtain ⟨c_5, h⟩ := gw_ife h
      refine ⟨c_5, ?_⟩
      obtain ⟨r_6, e_8, h⟩ := gw_bnd h
      refine ⟨rfl, 0, 0, hcc, hss, ok_X11_hasPlace hS0 e_8 ?_⟩
      intro hbr_6
      simp only [gt_nil, true_and, eq_self, gt_if, gt_aload_n, gt_rfk, gw_nth, gt_get_r, gt_get_i, gt_get_z, gt_iload_n, gt_ink, gt_iconst, gt_iadd, gt_sipush, gt_iaload, gt_iastore, Option.toList, List.cons_append, List.nil_append, Nat.add_zero, ka0_0, ra0_0_0, ka0_1, la0_1]
      refine ⟨fun c_10 => ?_, fun c_10 => ?_⟩
      · replace h := gw_ifp h c_10
        refine hK _ _ _ _ _ _ _ ?_
        rw [fdX11_goOnBy_70]
        simp only [gt_nil, true_and, eq_self, gt_vret, bkX11_goOnBy_70, ka0_0, ra0_0_0, ka0_1, la0_1]
        obtain rfl := gw_inj1 h
        exact ⟨hcc, hss, hq⟩
      · replace h := gw_ifn h c_10
        obtain ⟨c_11, h⟩ := gw_ife h
        refine ⟨c_11, ?_⟩
        obtain ⟨c_12, h⟩ := gw_ife h
        refine ⟨c_12, ?_⟩
        obtain ⟨μ_13, hμ_13, h⟩ := gw_lt h
        try rw [← hμ_13]
        refine hK _ _ _ _ _ _ _ ?_
        rw [fdX11_goOnBy_70]
        simp only [gt_nil, true_and, eq_self, gt_vret, bkX11_goOnBy_70, ka0_0, ra0_0_0, ka0_1, la0_1]
        obtain rfl := gw_inj1 h
        exact ⟨hcc, hss, hq⟩
    · replace h := gw_ifn h c_2
      obtain rfl := gw_inj1 h
      exact ⟨hcc, hss, hq⟩
  · replace h := gw_ifn2 (gw_c2_ne _ _) h c_1
    obtain ⟨c_14, h⟩ := gw_ife h
    refine ⟨c_14, ?_⟩
    obtain ⟨μ_15, hμ_15, h⟩ := gw_lt h
    try rw [← hμ_15]
    refine hK _ _ _ _ _ _ _ ?_
    rw [fdX11_goOnBy_15]
    simp only [gt_nil, true_and, eq_self, gt_iload, gt_ink, gw_nth, gt_if, gt_vret, bkX11_goOnBy_15, ka0_0, ra0_0_0, ka0_1, la0_1]
    refine ⟨fun c_16 => ?_, fun c_16 => ?_⟩
    · replace h := gw_ifp h c_16
      refine hK _ _ _ _ _ _ _ ?_
      rw [fdX11_goOnBy_21]
      simp only [gt_nil, true_and, eq_self, gt_aload_n, gt_rfk, gw_nth, gt_get_r, gt_get_i, gt_get_z, gt_iload_n, gt_ink, gt_sipush, gt_iadd, gt_iconst, gt_iastore, gt_iaload, gt_v0, gt_v1, gt_v2, gt_v3, gt_v4, gt_v5, gt_if, bkX11_goOnBy_21, ka0_0, ra0_0_0, ka0_1, la0_1]
      obtain ⟨c_17, h⟩ := gw_ife h
      refine ⟨c_17, ?_⟩
      obtain ⟨μ_18, hμ_18, h⟩ := gw_lt h
      try rw [← hμ_18]
      obtain ⟨c_19, h⟩ := gw_ife h
      refine ⟨c_19, ?_⟩
      obtain ⟨r_20, e_22, h⟩ := gw_bnd h
      refine ⟨rfl, 0, 0, hcc, hss, ok_X11_hasPlace hS0 e_22 ?_⟩
      intro hbr_20
      simp only [gt_nil, true_and, eq_self, gt_if, gt_aload_n, gt_rfk, gw_nth, gt_get_r, gt_get_i, gt_get_z, gt_iload_n, gt_ink, gt_iconst, gt_iadd, gt_sipush, gt_iaload, gt_iastore, Option.toList, List.cons_append, List.nil_append, Nat.add_zero, ka0_0, ra0_0_0, ka0_1, la0_1]
      refine ⟨fun c_24 => ?_, fun c_24 => ?_⟩
      · replace h := gw_ifp h c_24
        refine hK _ _ _ _ _ _ _ ?_
        rw [fdX11_goOnBy_70]
        simp only [gt_nil, true_and, eq_self, gt_vret, bkX11_goOnBy_70, ka0_0, ra0_0_0, ka0_1, la0_1]
        obtain rfl := gw_inj1 h
        exact ⟨hcc, hss, hq⟩
      · replace h := gw_ifn h c_24
        obtain ⟨c_25, h⟩ := gw_ife h
        refine ⟨c_25, ?_⟩
        obtain ⟨c_26, h⟩ := gw_ife h
        refine ⟨c_26, ?_⟩
        obtain ⟨μ_27, hμ_27, h⟩ := gw_lt h
        try rw [← hμ_27]
        refine hK _ _ _ _ _ _ _ ?_
        rw [fdX11_goOnBy_70]
        simp only [gt_nil, true_and, eq_self, gt_vret, bkX11_goOnBy_70, ka0_0, ra0_0_0, ka0_1, la0_1]
        obtain rfl := gw_inj1 h
        exact ⟨hcc, hss, hq⟩
    · replace h := gw_ifn h c_16
      obtain rfl := gw_inj1 h
      exact ⟨hcc, hss, hq⟩
def F_X11_actNow_201 (n0 : Nat) (a0 : Nat) (s1 : Int32) (s2 : Int32) (μ : gw_M) : Option (gw_M) := (if 0 ≤ s1 ∧ s1.toNatClampNeg < 20813 then gw_let (gw_up μ (a0 + 1) s1.toNatClampNeg s2) (fun (μ_2 : gw_M) => some μ_2) else none)
def F_X11_actNow_154 (n0 : Nat) (a0 : Nat) (s1 : Int32) (s2 : Int32) (s3 : Int32) (s4 : Int32) (μ : gw_M) : Option (gw_M) := (if s4 = 0 ∨ s4 = 1 then (F_X11_goOnBy n0 a0 s1 s2 s3 s4 μ).bind (fun (μ_3 : gw_M) => some μ_3) else none)
def F_X11_actNow (n0 : Nat) (a0 : Nat) (μ : gw_M) : Option (gw_M) := gw_let ((μ (a0 + 1) 2)) (fun (w_1 : Int32) => (F_X11_guestAt n0 a0 w_1 μ).bind (fun (r_2 : Int32) => (if 0 ≤ (r_2 + (6 : Int32)) ∧ (r_2 + (6 : Int32)).toNatClampNeg < 20813 then (if ¬ (μ (a0 + 1) (r_2 + (6 : Int32)).toNatClampNeg) = 0 then (if 0 ≤ (r_2 + (5 : Int32)) ∧ (r_2 + (5 : Int32)).toNatClampNeg < 20813 then gw_let ((μ (a0 + 1) (r_2 + (5 : Int32)).toNatClampNeg)) (fun (w_9 : Int32) => (if 0 ≤ ((r_2 + (7 : Int32)) + ((3 : Int32) * w_9)) ∧ ((r_2 + (7 : Int32)) + ((3 : Int32) * w_9)).toNatClampNeg < 20813 then gw_let ((μ (a0 + 1) ((r_2 + (7 : Int32)) + ((3 : Int32) * w_9)).toNatClampNeg)) (fun (w_11 : Int32) => (if 0 ≤ (((r_2 + (7 : Int32)) + ((3 : Int32) * w_9)) + (1 : Int32)) ∧ (((r_2 + (7 : Int32)) + ((3 : Int32) * w_9)) + (1 : Int32)).toNatClampNeg < 20813 then gw_let ((μ (a0 + 1) (((r_2 + (7 : Int32)) + ((3 : Int32) * w_9)) + (1 : Int32)).toNatClampNeg)) (fun (w_13 : Int32) => (if 0 ≤ (((r_2 + (7 : Int32)) + ((3 : Int32) * w_9)) + (2 : Int32)) ∧ (((r_2 + (7 : Int32)) + ((3 : Int32) * w_9)) + (2 : Int32)).toNatClampNeg < 20813 then gw_let ((μ (a0 + 1) (((r_2 + (7 : Int32)) + ((3 : Int32) * w_9)) + (2 : Int32)).toNatClampNeg)) (fun (w_15 : Int32) => (if 0 ≤ (r_2 + (6 : Int32)) ∧ (r_2 + (6 : Int32)).toNatClampNeg < 20813 then (if ¬ (μ (a0 + 1) (r_2 + (6 : Int32)).toNatClampNeg) = 0 then (if 0 ≤ (r_2 + (5 : Int32)) ∧ (r_2 + (5 : Int32)).toNatClampNeg < 20813 then gw_let (gw_up μ (a0 + 1) (r_2 + (5 : Int32)).toNatClampNeg ((w_9 + (1 : Int32)) - (w_9 + (1 : Int32)) / (μ (a0 + 1) (r_2 + (6 : Int32)).toNatClampNeg) * (μ (a0 + 1) (r_2 + (6 : Int32)).toNatClampNeg))) (fun (μ_19 : gw_M) => (if 3 ≤ w_11 then (if ¬ w_11 = 3 then (if 6 ≤ w_11 then (if ¬ w_1 = 1 then (F_X11_actInner n0 a0 w_11 w_13 w_15 μ_19).bind (fun (μ_25 : gw_M) => some μ_25) else (F_X11_actOuter n0 a0 w_11 w_13 w_15 μ_19).bind (fun (μ_29 : gw_M) => some μ_29)) else (if ¬ w_11 = 4 then F_X11_actNow_201 n0 a0 (r_2 + (2 : Int32)) 0 μ_19 else F_X11_actNow_201 n0 a0 (r_2 + (2 : Int32)) 1 μ_19)) else (gw_bi (F_X11_eventNow n0 a0 w_13 μ_19) (fun (r_33 : Int32) (μ_34 : gw_M) => some μ_34))) else gw_let ((μ_19 (a0 + 1) 7)) (fun (w_37 : Int32) => (gw_bi (F_X11_touchNow n0 a0 w_13 w_11 w_15 μ_19) (fun (r_38 : Int32) (μ_39 : gw_M) => (if (μ_39 (a0 + 1) 7) ≤ w_37 then F_X11_actNow_154 n0 a0 r_2 w_9 r_38 0 μ_39 else F_X11_actNow_154 n0 a0 r_2 w_9 r_38 1 μ_39)))))) else none) else none) else none)) else none)) else none)) else none)) else none) else some μ) else none)))
theorem B_X11_actNow_201 {l : Launch} {x : gw_C} {d : Nat} {S : gw_S} {Q : Option Value → gw_S → gw_M → Prop} {K : Nat → gw_Kt} {mc ms cc ss : Nat} (hcc : cc ≤ mc) (hss : ss ≤ ms) (hK : gw_cl l x (d + 11) mc ms bsX11_actNow Q K) {a0 : Nat} (hS0 : gw_sh S 11 a0) {n0 : Nat} {s1 s2} {u1 u2 u3 u4 u5 u6 u7 u8 : Value} {μ : gw_M} {μ'} (h : F_X11_actNow_201 n0 a0 s1 s2 μ = some μ') (hq : Q none S μ') : K 201 [.ref a0, u1, u2, u3, u4, u5, u6, u7, u8] [.int s2, .int s1, .ref (a0 + 1)] S μ cc ss := by
  have ka0_1 : gw_kd S (a0 + 1) = 12 := (hS0 1 _ rfl).1
  have la0_1 : gw_ln S (a0 + 1) = 20813 := (hS0 1 _ rfl).2.1
  unfold F_X11_actNow_201 at h
  refine hK _ _ _ _ _ _ _ ?_
  rw [fdX11_actNow_201]
  simp only [gt_nil, true_and, eq_self, gt_iastore, gt_goto, bkX11_actNow_201, ka0_1, la0_1]
  obtain ⟨c_1, h⟩ := gw_ife h
  refine ⟨c_1, ?_⟩
  obtain ⟨μ_2, hμ_2, h⟩ := gw_lt h
  try rw [← hμ_2]
  refine hK _ _ _ _ _ _ _ ?_
  rw [fdX11_actNow_233]
  simp only [gt_nil, true_and, eq_self, gt_vret, bkX11_actNow_233, ka0_1, la0_1]
  obtain rfl := gw_inj1 h
  exact ⟨hcc, hss, hq⟩
theorem B_X11_actNow_154 {l : Launch} {x : gw_C} {d : Nat} {S : gw_S} {Q : Option Value → gw_S → gw_M → Prop} {K : Nat → gw_Kt} {mc ms cc ss : Nat} (hcc : cc ≤ mc) (hss : ss ≤ ms) (hK : gw_cl l x (d + 11) mc ms bsX11_actNow Q K) {a0 : Nat} (hS0 : gw_sh S 11 a0) {n0 : Nat} {s1 s2 s3 s4} {u1 u2 u3 u4 u5 u6 u7 u8 : Value} {μ : gw_M} {μ'} (h : F_X11_actNow_154 n0 a0 s1 s2 s3 s4 μ = some μ') (hq : Q none S μ') : K 154 [.ref a0, u1, u2, u3, u4, u5, u6, u7, u8] [.int s4, .int s3, .int s2, .int s1, .ref a0] S μ cc ss := by
  have ka0_0 : gw_kd S a0 = 11 := (hS0 0 _ rfl).1
  unfold F_X11_actNow_154 at h
  refine hK _ _ _ _ _ _ _ ?_
  rw [fdX11_actNow_154]
  simp only [gt_nil, true_and, eq_self, gt_v0, gt_v1, gt_v2, gt_v3, gt_v4, gt_v5, gt_goto, bkX11_actNow_154, ka0_0]
  obtain ⟨c_1, h⟩ := gw_ife h
  obtain ⟨μ_3, e_4, h⟩ := gw_bnd h
  refine ⟨rfl, 0, 0, hcc, hss, ok_X11_goOnBy hS0 c_1 e_4 ?_⟩
  simp only [gt_nil, true_and, eq_self, gt_goto, Option.toList, List.cons_append, List.nil_append, Nat.add_zero, ka0_0]
  refine hK _ _ _ _ _ _ _ ?_
  rw [fdX11_actNow_233]
  simp only [gt_nil, true_and, eq_self, gt_vret, bkX11_actNow_233, ka0_0]
  obtain rfl := gw_inj1 h
  exact ⟨hcc, hss, hq⟩
theorem ok_X11_actNow {l : Launch} {x : gw_C} {d : Nat} {S : gw_S} {Q : Option Value → gw_S → gw_M → Prop} {a0 : Nat} {n0 : Nat} {μ : gw_M} {μ'} (hS0 : gw_sh S 11 a0) (h : F_X11_actNow n0 a0 μ = some μ') (hq : Q none S μ') : gw_ok l x (d + 12) sgX11_actNow 0 0 [.ref a0] S μ Q := by
  refine gw_ok_of stX11_actNow (lv0 := [.ref a0, .retAddr 0, .retAddr 0, .retAddr 0, .retAddr 0, .retAddr 0, .retAddr 0, .retAddr 0, .retAddr 0]) (Nat.le_of_ble_eq_true rfl) rfl rfl ?_
  intro K hK
  have hcc : 0 ≤ 0 := Nat.zero_le _
  have hss : 0 ≤ 0 := Nat.zero_le _
  have ka0_0 : gw_kd S a0 = 11 := (hS0 0 _ rfl).1
  have ra0_0_0 : gw_rf S a0 0 = a0 + 1 := (hS0 0 _ rfl).2.2 (0, 1) (by decide)
  have ka0_1 : gw_kd S (a0 + 1) = 12 := (hS0 1 _ rfl).1
  have la0_1 : gw_ln S (a0 + 1) = 20813 := (hS0 1 _ rfl).2.1
  unfold F_X11_actNow at h
  refine hK _ _ _ _ _ _ _ ?_
  rw [fdX11_actNow_0]
  simp only [gt_nil, true_and, eq_self, gt_aload_n, gt_rfk, gw_nth, gt_get_r, gt_get_i, gt_get_z, gt_iconst, gt_iaload, gt_istore_n, gw_set, gt_iload_n, gt_ink, gt_v0, gt_v1, gt_v2, gt_v3, gt_v4, gt_v5, gt_bipush, gt_iadd, gt_if, gt_vret, bkX11_actNow_0, ka0_0, ra0_0_0, ka0_1, la0_1, (show Int32.toNatClampNeg 2 = 2 from rfl), (show Int32.toNatClampNeg 7 = 7 from rfl)]
  refine ⟨(⟨by decide, by decide⟩ : gw_in 2 20813), ?_⟩
  obtain ⟨w_1, hw_1, h⟩ := gw_lt h
  try rw [← hw_1]
  obtain ⟨r_2, e_4, h⟩ := gw_bnd h
  refine ⟨rfl, 0, 0, hcc, hss, ok_X11_guestAt hS0 e_4 ?_⟩
  simp only [gt_nil, true_and, eq_self, gt_istore_n, gw_set, gt_aload_n, gt_rfk, gw_nth, gt_get_r, gt_get_i, gt_get_z, gt_iload_n, gt_ink, gt_bipush, gt_iadd, gt_iaload, gt_if, gt_vret, Option.toList, List.cons_append, List.nil_append, Nat.add_zero, ka0_0, ra0_0_0, ka0_1, la0_1, (show Int32.toNatClampNeg 2 = 2 from rfl), (show Int32.toNatClampNeg 7 = 7 from rfl)]
  obtain ⟨c_6, h⟩ := gw_ife h
  refine ⟨c_6, ?_⟩
  refine ⟨fun c_7 => ?_, fun c_7 => ?_⟩
  · replace h := gw_ifp h c_7
    refine hK _ _ _ _ _ _ _ ?_
    rw [fdX11_actNow_26]
    simp only [gt_nil, true_and, eq_self, gt_aload_n, gt_rfk, gw_nth, gt_get_r, gt_get_i, gt_get_z, gt_iload_n, gt_ink, gt_iconst, gt_iadd, gt_iaload, gt_istore_n, gw_set, gt_bipush, gt_imul, gt_istore, gt_irem, gt_iastore, gt_iload, gt_icmp, gt_v0, gt_v1, gt_v2, gt_v3, gt_v4, gt_v5, gt_goto, bkX11_actNow_26, ka0_0, ra0_0_0, ka0_1, la0_1, (show Int32.toNatClampNeg 2 = 2 from rfl), (show Int32.toNatClampNeg 7 = 7 from rfl)]
    obtain ⟨c_8, h⟩ := gw_ife h
    refine ⟨c_8, ?_⟩
    obtain ⟨w_9, hw_9, h⟩ := gw_lt h
    try rw [← hw_9]
    obtain ⟨c_10, h⟩ := gw_ife h
    refine ⟨c_10, ?_⟩
    obtain ⟨w_11, hw_11, h⟩ := gw_lt h
    try rw [← hw_11]
    obtain ⟨c_12, h⟩ := gw_ife h
    refine ⟨c_12, ?_⟩
    obtain ⟨w_13, hw_13, h⟩ := gw_lt h
    try rw [← hw_13]
    obtain ⟨c_14, h⟩ := gw_ife h
    refine ⟨c_14, ?_⟩
    obtain ⟨w_15, hw_15, h⟩ := gw_lt h
    try rw [← hw_15]
    obtain ⟨c_16, h⟩ := gw_ife h
    refine ⟨c_16, ?_⟩
    obtain ⟨c_17, h⟩ := gw_ife h
    refine ⟨c_17, ?_⟩
    obtain ⟨c_18, h⟩ := gw_ife h
    refine ⟨c_18, ?_⟩
    obtain ⟨μ_19, hμ_19, h⟩ := gw_lt h
    try rw [← hμ_19]
    refine ⟨fun c_20 => ?_, fun c_20 => ?_⟩
    · replace h := gw_ifp2 (gw_c2_ge _ _) h c_20
      refine hK _ _ _ _ _ _ _ ?_
      rw [fdX11_actNow_160]
      simp only [gt_nil, true_and, eq_self, gt_iload, gt_ink, gw_nth, gt_iconst, gt_icmp, gt_aload_n, gt_rfk, gt_v0, gt_v1, gt_v2, gt_v3, gt_v4, gt_v5, gt_pop_i, gt_pop_r, gt_goto, bkX11_actNow_160, ka0_0, ra0_0_0, ka0_1, la0_1, (show Int32.toNatClampNeg 2 = 2 from rfl), (show Int32.toNatClampNeg 7 = 7 from rfl)]
      refine ⟨fun c_21 => ?_, fun c_21 => ?_⟩
      · replace h := gw_ifp2 (gw_c2_ne _ _) h c_21
        refine hK _ _ _ _ _ _ _ ?_
        rw [fdX11_actNow_176]
        simp only [gt_nil, true_and, eq_self, gt_iload, gt_ink, gw_nth, gt_bipush, gt_icmp, gt_aload_n, gt_rfk, gt_get_r, gt_get_i, gt_get_z, gt_iload_n, gt_iconst, gt_iadd, gt_goto, bkX11_actNow_176, ka0_0, ra0_0_0, ka0_1, la0_1, (show Int32.toNatClampNeg 2 = 2 from rfl), (show Int32.toNatClampNeg 7 = 7 from rfl)]
        refine ⟨fun c_22 => ?_, fun c_22 => ?_⟩
        · replace h := gw_ifp2 (gw_c2_ge _ _) h c_22
          refine hK _ _ _ _ _ _ _ ?_
          rw [fdX11_actNow_205]
          simp only [gt_nil, true_and, eq_self, gt_iload_n, gt_ink, gw_nth, gt_iconst, gt_icmp, gt_aload_n, gt_rfk, gt_iload, gt_v0, gt_v1, gt_v2, gt_v3, gt_v4, gt_v5, gt_goto, bkX11_actNow_205, ka0_0, ra0_0_0, ka0_1, la0_1, (show Int32.toNatClampNeg 2 = 2 from rfl), (show Int32.toNatClampNeg 7 = 7 from rfl)]
          refine ⟨fun c_23 => ?_, fun c_23 => ?_⟩
          · replace h := gw_ifp2 (gw_c2_ne _ _) h c_23
            refine hK _ _ _ _ _ _ _ ?_
            rw [fdX11_actNow_223]
            simp only [gt_nil, true_and, eq_self, gt_aload_n, gt_rfk, gw_nth, gt_iload, gt_ink, gt_v0, gt_v1, gt_v2, gt_v3, gt_v4, gt_v5, bkX11_actNow_223, ka0_0, ra0_0_0, ka0_1, la0_1, (show Int32.toNatClampNeg 2 = 2 from rfl), (show Int32.toNatClampNeg 7 = 7 from rfl)]
            obtain ⟨μ_25, e_26, h⟩ := gw_bnd h
            refine ⟨rfl, 0, 0, hcc, hss, ok_X11_actInner hS0 e_26 ?_⟩
            simp only [gt_nil, true_and, eq_self, Option.toList, List.cons_append, List.nil_append, Nat.add_zero, ka0_0, ra0_0_0, ka0_1, la0_1, (show Int32.toNatClampNeg 2 = 2 from rfl), (show Int32.toNatClampNeg 7 = 7 from rfl)]
            refine hK _ _ _ _ _ _ _ ?_
            rw [fdX11_actNow_233]
            simp only [gt_nil, true_and, eq_self, gt_vret, bkX11_actNow_233, ka0_0, ra0_0_0, ka0_1, la0_1, (show Int32.toNatClampNeg 2 = 2 from rfl), (show Int32.toNatClampNeg 7 = 7 from rfl)]
            obtain rfl := gw_inj1 h
            exact ⟨hcc, hss, hq⟩
          · replace h := gw_ifn2 (gw_c2_ne _ _) h c_23
            obtain ⟨μ_29, e_30, h⟩ := gw_bnd h
            refine ⟨rfl, 0, 0, hcc, hss, ok_X11_actOuter hS0 e_30 ?_⟩
            simp only [gt_nil, true_and, eq_self, gt_goto, Option.toList, List.cons_append, List.nil_append, Nat.add_zero, ka0_0, ra0_0_0, ka0_1, la0_1, (show Int32.toNatClampNeg 2 = 2 from rfl), (show Int32.toNatClampNeg 7 = 7 from rfl)]
            refine hK _ _ _ _ _ _ _ ?_
            rw [fdX11_actNow_233]
            simp only [gt_nil, true_and, eq_self, gt_vret, bkX11_actNow_233, ka0_0, ra0_0_0, ka0_1, la0_1, (show Int32.toNatClampNeg 2 = 2 from rfl), (show Int32.toNatClampNeg 7 = 7 from rfl)]
            obtain rfl := gw_inj1 h
            exact ⟨hcc, hss, hq⟩
        · replace h := gw_ifn2 (gw_c2_ge _ _) h c_22
          refine ⟨fun c_32 => ?_, fun c_32 => ?_⟩
          · replace h := gw_ifp2 (gw_c2_ne _ _) h c_32
            refine hK _ _ _ _ _ _ _ ?_
            rw [fdX11_actNow_200]
            simp only [gt_nil, true_and, eq_self, gt_iconst, bkX11_actNow_200, ka0_0, ra0_0_0, ka0_1, la0_1, (show Int32.toNatClampNeg 2 = 2 from rfl), (show Int32.toNatClampNeg 7 = 7 from rfl)]
            exact B_X11_actNow_201 hcc hss hK hS0 h hq
          · replace h := gw_ifn2 (gw_c2_ne _ _) h c_32
            exact B_X11_actNow_201 hcc hss hK hS0 h hq
      · replace h := gw_ifn2 (gw_c2_ne _ _) h c_21
        obtain ⟨r_33, μ_34, e_35, h⟩ := gw_bnd2 h
        refine ⟨rfl, 0, 0, hcc, hss, ok_X11_eventNow hS0 e_35 ?_⟩
        simp only [gt_nil, true_and, eq_self, gt_pop_i, gt_pop_r, gt_goto, Option.toList, List.cons_append, List.nil_append, Nat.add_zero, ka0_0, ra0_0_0, ka0_1, la0_1, (show Int32.toNatClampNeg 2 = 2 from rfl), (show Int32.toNatClampNeg 7 = 7 from rfl)]
        refine hK _ _ _ _ _ _ _ ?_
        rw [fdX11_actNow_233]
        simp only [gt_nil, true_and, eq_self, gt_vret, bkX11_actNow_233, ka0_0, ra0_0_0, ka0_1, la0_1, (show Int32.toNatClampNeg 2 = 2 from rfl), (show Int32.toNatClampNeg 7 = 7 from rfl)]
        obtain rfl := gw_inj1 h
        exact ⟨hcc, hss, hq⟩
    · replace h := gw_ifn2 (gw_c2_ge _ _) h c_20
      refine ⟨(⟨by decide, by decide⟩ : gw_in 7 20813), ?_⟩
      obtain ⟨w_37, hw_37, h⟩ := gw_lt h
      try rw [← hw_37]
      obtain ⟨r_38, μ_39, e_40, h⟩ := gw_bnd2 h
      refine ⟨rfl, 0, 0, hcc, hss, ok_X11_touchNow hS0 e_40 ?_⟩
      simp only [gt_nil, true_and, eq_self, gt_istore, gw_set, gt_aload_n, gt_rfk, gw_nth, gt_iload_n, gt_ink, gt_iload, gt_get_r, gt_get_i, gt_get_z, gt_bipush, gt_iaload, gt_icmp, gt_iconst, gt_goto, Option.toList, List.cons_append, List.nil_append, Nat.add_zero, ka0_0, ra0_0_0, ka0_1, la0_1, (show Int32.toNatClampNeg 2 = 2 from rfl), (show Int32.toNatClampNeg 7 = 7 from rfl)]
      refine ⟨(⟨by decide, by decide⟩ : gw_in 7 20813), ?_⟩
      refine ⟨fun c_42 => ?_, fun c_42 => ?_⟩
      · replace h := gw_ifp2 (gw_c2_le _ _) h c_42
        refine hK _ _ _ _ _ _ _ ?_
        rw [fdX11_actNow_153]
        simp only [gt_nil, true_and, eq_self, gt_iconst, bkX11_actNow_153, ka0_0, ra0_0_0, ka0_1, la0_1, (show Int32.toNatClampNeg 2 = 2 from rfl), (show Int32.toNatClampNeg 7 = 7 from rfl)]
        exact B_X11_actNow_154 hcc hss hK hS0 h hq
      · replace h := gw_ifn2 (gw_c2_le _ _) h c_42
        exact B_X11_actNow_154 hcc hss hK hS0 h hq
  · replace h := gw_ifn h c_7
    obtain rfl := gw_inj1 h
    exact ⟨hcc, hss, hq⟩
def F_X11_goNow (n0 : Nat) (a0 : Nat) (μ : gw_M) : Option (gw_M) := (gw_bi (F_X11_tick n0 a0 μ) (fun (r_1 : Int32) (μ_2 : gw_M) => (F_X11_dealOut n0 a0 μ_2).bind (fun (μ_6 : gw_M) => (F_X11_actNow n0 a0 μ_6).bind (fun (μ_10 : gw_M) => (F_X11_dealOut n0 a0 μ_10).bind (fun (μ_14 : gw_M) => some μ_14)))))
theorem ok_X11_goNow {l : Launch} {x : gw_C} {d : Nat} {S : gw_S} {Q : Option Value → gw_S → gw_M → Prop} {a0 : Nat} {n0 : Nat} {μ : gw_M} {μ'} (hS0 : gw_sh S 11 a0) (h : F_X11_goNow n0 a0 μ = some μ') (hq : Q none S μ') : gw_ok l x (d + 13) sgX11_goNow 0 0 [.ref a0] S μ Q := by
  refine gw_ok_of stX11_goNow (lv0 := [.ref a0]) (Nat.le_of_ble_eq_true rfl) rfl rfl ?_
  intro K hK
  have hcc : 0 ≤ 0 := Nat.zero_le _
  have hss : 0 ≤ 0 := Nat.zero_le _
  have ka0_0 : gw_kd S a0 = 11 := (hS0 0 _ rfl).1
  unfold F_X11_goNow at h
  refine hK _ _ _ _ _ _ _ ?_
  rw [fdX11_goNow_0]
  simp only [gt_nil, true_and, eq_self, gt_aload_n, gt_rfk, gw_nth, gt_v0, gt_v1, gt_v2, gt_v3, gt_v4, gt_v5, gt_pop_i, gt_pop_r, gt_vret, bkX11_goNow_0, ka0_0]
  obtain ⟨r_1, μ_2, e_3, h⟩ := gw_bnd2 h
  refine ⟨rfl, 0, 0, hcc, hss, ok_X11_tick hS0 e_3 ?_⟩
  simp only [gt_nil, true_and, eq_self, gt_pop_i, gt_pop_r, gt_aload_n, gt_rfk, gw_nth, gt_v0, gt_v1, gt_v2, gt_v3, gt_v4, gt_v5, gt_vret, Option.toList, List.cons_append, List.nil_append, Nat.add_zero, ka0_0]
  obtain ⟨μ_6, e_7, h⟩ := gw_bnd h
  refine ⟨rfl, 0, 0, hcc, hss, ok_X11_dealOut hS0 e_7 ?_⟩
  simp only [gt_nil, true_and, eq_self, gt_aload_n, gt_rfk, gw_nth, gt_v0, gt_v1, gt_v2, gt_v3, gt_v4, gt_v5, gt_vret, Option.toList, List.cons_append, List.nil_append, Nat.add_zero, ka0_0]
  obtain ⟨μ_10, e_11, h⟩ := gw_bnd h
  refine ⟨rfl, 0, 0, hcc, hss, ok_X11_actNow hS0 e_11 ?_⟩
  simp only [gt_nil, true_and, eq_self, gt_aload_n, gt_rfk, gw_nth, gt_v0, gt_v1, gt_v2, gt_v3, gt_v4, gt_v5, gt_vret, Option.toList, List.cons_append, List.nil_append, Nat.add_zero, ka0_0]
  obtain ⟨μ_14, e_15, h⟩ := gw_bnd h
  refine ⟨rfl, 0, 0, hcc, hss, ok_X11_dealOut hS0 e_15 ?_⟩
  simp only [gt_nil, true_and, eq_self, gt_vret, Option.toList, List.cons_append, List.nil_append, Nat.add_zero, ka0_0]
  obtain rfl := gw_inj1 h
  exact ⟨hcc, hss, hq⟩
def F_X11_canGo_26 (n0 : Nat) (a0 : Nat) (μ : gw_M) : Option (Int32) := some 0
def F_X11_canGo (n0 : Nat) (a0 : Nat) (v1 : Int32) (v2 : Int32) (μ : gw_M) : Option (Int32) := (F_X11_isIn n0 v1 1 v2 μ).bind (fun (r_1 : Int32) => (if r_1 = 0 then F_X11_canGo_26 n0 a0 μ else (if 99999 < ((μ (a0 + 1) 3) + v1) then F_X11_canGo_26 n0 a0 μ else some 1)))
theorem B_X11_canGo_26 {l : Launch} {x : gw_C} {d : Nat} {S : gw_S} {Q : Option Value → gw_S → gw_M → Prop} {K : Nat → gw_Kt} {mc ms cc ss : Nat} (hcc : cc ≤ mc) (hss : ss ≤ ms) (hK : gw_cl l x (d + 1) mc ms bsX11_canGo Q K) {a0 : Nat} (hS0 : gw_sh S 11 a0) {n0 : Nat}  {u1 u2 : Value} {μ : gw_M} {r} (h : F_X11_canGo_26 n0 a0 μ = some r) (hq : ((r = 0 ∨ r = 1) → Q (some (.int r)) S μ)) : K 26 [.ref a0, u1, u2] [] S μ cc ss := by
  unfold F_X11_canGo_26 at h
  refine hK _ _ _ _ _ _ _ ?_
  rw [fdX11_canGo_26]
  simp only [gt_nil, true_and, eq_self, gt_iconst, bkX11_canGo_26]
  refine hK _ _ _ _ _ _ _ ?_
  rw [fdX11_canGo_27]
  simp only [gt_nil, true_and, eq_self, gt_iret, gt_retz, bkX11_canGo_27]
  obtain rfl := gw_inj1 h
  exact ⟨(Or.inl rfl), hcc, hss, hq (Or.inl rfl)⟩
theorem ok_X11_canGo {l : Launch} {x : gw_C} {d : Nat} {S : gw_S} {Q : Option Value → gw_S → gw_M → Prop} {v1 v2 : Int32} {a0 : Nat} {n0 : Nat} {μ : gw_M} {r} (hS0 : gw_sh S 11 a0) (h : F_X11_canGo n0 a0 v1 v2 μ = some r) (hq : ((r = 0 ∨ r = 1) → Q (some (.int r)) S μ)) : gw_ok l x (d + 2) sgX11_canGo 0 0 [.ref a0, .int v1, .int v2] S μ Q := by
  refine gw_ok_of stX11_canGo (lv0 := [.ref a0, .int v1, .int v2]) (Nat.le_of_ble_eq_true rfl) rfl rfl ?_
  intro K hK
  have hcc : 0 ≤ 0 := Nat.zero_le _
  have hss : 0 ≤ 0 := Nat.zero_le _
  have ka0_0 : gw_kd S a0 = 11 := (hS0 0 _ rfl).1
  have ra0_0_0 : gw_rf S a0 0 = a0 + 1 := (hS0 0 _ rfl).2.2 (0, 1) (by decide)
  have ka0_1 : gw_kd S (a0 + 1) = 12 := (hS0 1 _ rfl).1
  have la0_1 : gw_ln S (a0 + 1) = 20813 := (hS0 1 _ rfl).2.1
  unfold F_X11_canGo at h
  refine hK _ _ _ _ _ _ _ ?_
  rw [fdX11_canGo_0]
  simp only [gt_nil, true_and, eq_self, gt_iload_n, gt_ink, gw_nth, gt_iconst, gt_s1_0, gt_s2_0, gt_s3_0, gt_s4_0, gt_s1_1, gt_s2_1, gt_s3_1, gt_s4_1, gt_acpy, gt_if, gt_aload_n, gt_rfk, gt_get_r, gt_get_i, gt_get_z, gt_iaload, gt_iadd, gt_ldc, gt_icmp, gt_goto, bkX11_canGo_0, ka0_0, ra0_0_0, ka0_1, la0_1, (show Int32.toNatClampNeg 3 = 3 from rfl)]
  obtain ⟨r_1, e_3, h⟩ := gw_bnd h
  refine ⟨rfl, 0, 0, hcc, hss, ok_X11_isIn e_3 ?_⟩
  intro hbr_1
  simp only [gt_nil, true_and, eq_self, gt_if, gt_aload_n, gt_rfk, gw_nth, gt_get_r, gt_get_i, gt_get_z, gt_iconst, gt_iaload, gt_iload_n, gt_ink, gt_iadd, gt_ldc, gt_icmp, gt_goto, Option.toList, List.cons_append, List.nil_append, Nat.add_zero, ka0_0, ra0_0_0, ka0_1, la0_1, (show Int32.toNatClampNeg 3 = 3 from rfl)]
  refine ⟨fun c_5 => ?_, fun c_5 => ?_⟩
  · replace h := gw_ifp h c_5
    exact B_X11_canGo_26 hcc hss hK hS0 h hq
  · replace h := gw_ifn h c_5
    refine ⟨(⟨by decide, by decide⟩ : gw_in 3 20813), ?_⟩
    refine ⟨fun c_6 => ?_, fun c_6 => ?_⟩
    · replace h := gw_ifp2 (gw_c2_gt _ _) h c_6
      exact B_X11_canGo_26 hcc hss hK hS0 h hq
    · replace h := gw_ifn2 (gw_c2_gt _ _) h c_6
      refine hK _ _ _ _ _ _ _ ?_
      rw [fdX11_canGo_27]
      simp only [gt_nil, true_and, eq_self, gt_iret, gt_retz, bkX11_canGo_27, ka0_0, ra0_0_0, ka0_1, la0_1, (show Int32.toNatClampNeg 3 = 3 from rfl)]
      obtain rfl := gw_inj1 h
      exact ⟨(Or.inr rfl), hcc, hss, hq (Or.inr rfl)⟩
def F_X11_exitsAll (n0 : Nat) (a0 : Nat) (μ : gw_M) : Option (Int32) := some ((μ (a0 + 1) 5) + (μ (a0 + 1) 6))
theorem ok_X11_exitsAll {l : Launch} {x : gw_C} {d : Nat} {S : gw_S} {Q : Option Value → gw_S → gw_M → Prop} {a0 : Nat} {n0 : Nat} {μ : gw_M} {r} (hS0 : gw_sh S 11 a0) (h : F_X11_exitsAll n0 a0 μ = some r) (hq : Q (some (.int r)) S μ) : gw_ok l x (d + 1) sgX11_exitsAll 0 0 [.ref a0] S μ Q := by
  refine gw_ok_of stX11_exitsAll (lv0 := [.ref a0]) (Nat.le_of_ble_eq_true rfl) rfl rfl ?_
  intro K hK
  have hcc : 0 ≤ 0 := Nat.zero_le _
  have hss : 0 ≤ 0 := Nat.zero_le _
  have ka0_0 : gw_kd S a0 = 11 := (hS0 0 _ rfl).1
  have ra0_0_0 : gw_rf S a0 0 = a0 + 1 := (hS0 0 _ rfl).2.2 (0, 1) (by decide)
  have ka0_1 : gw_kd S (a0 + 1) = 12 := (hS0 1 _ rfl).1
  have la0_1 : gw_ln S (a0 + 1) = 20813 := (hS0 1 _ rfl).2.1
  unfold F_X11_exitsAll at h
  refine hK _ _ _ _ _ _ _ ?_
  rw [fdX11_exitsAll_0]
  simp only [gt_nil, true_and, eq_self, gt_aload_n, gt_rfk, gw_nth, gt_get_r, gt_get_i, gt_get_z, gt_iconst, gt_iaload, gt_bipush, gt_iadd, gt_iret, gt_retz, bkX11_exitsAll_0, ka0_0, ra0_0_0, ka0_1, la0_1, (show Int32.toNatClampNeg 5 = 5 from rfl), (show Int32.toNatClampNeg 6 = 6 from rfl)]
  refine ⟨(⟨by decide, by decide⟩ : gw_in 5 20813), ?_⟩
  refine ⟨(⟨by decide, by decide⟩ : gw_in 6 20813), ?_⟩
  obtain rfl := gw_inj1 h
  exact ⟨hcc, hss, hq⟩
def F_X11_run_24 (n0 : Nat) (a0 : Nat) : Nat → Int32 → Int32 → Int32 → gw_M → Option (Int32 × gw_M)
  | 0, _, _, _, _ => none
  | n + 1, v1, v2, v3, μ => (if v1 ≤ v3 then (F_X11_exitsAll n0 a0 μ).bind (fun (r_2 : Int32) => some ((r_2 - v2), μ)) else (F_X11_goNow n0 a0 μ).bind (fun (μ_7 : gw_M) => gw_let (v3 + 1) (fun (w_10 : Int32) => F_X11_run_24 n0 a0 n v1 v2 w_10 μ_7)))
def F_X11_run (n0 : Nat) (a0 : Nat) (v1 : Int32) (μ : gw_M) : Option (Int32 × gw_M) := (F_X11_canGo n0 a0 v1 200 μ).bind (fun (r_1 : Int32) => (if ¬ r_1 = 0 then (F_X11_keep n0 a0 μ).bind (fun (μ_7 : gw_M) => (F_X11_exitsAll n0 a0 μ_7).bind (fun (r_10 : Int32) => F_X11_run_24 n0 a0 n0 v1 r_10 0 μ_7)) else some ((-1), μ)))
theorem B_X11_run_24 {l : Launch} {x : gw_C} {d : Nat} {S : gw_S} {Q : Option Value → gw_S → gw_M → Prop} {K : Nat → gw_Kt} {mc ms cc ss : Nat} (hcc : cc ≤ mc) (hss : ss ≤ ms) (hK : gw_cl l x (d + 13) mc ms bsX11_run Q K) {a0 : Nat} (hS0 : gw_sh S 11 a0) {n0 : Nat} : ∀ {n : Nat} {v1 v2 v3} {μ : gw_M} {r μ'}, F_X11_run_24 n0 a0 n v1 v2 v3 μ = some (r, μ') → Q (some (.int r)) S μ' → K 24 [.ref a0, .int v1, .int v2, .int v3] [] S μ cc ss := by
  have ka0_0 : gw_kd S a0 = 11 := (hS0 0 _ rfl).1
  intro n
  induction n with
  | zero => intro v1 v2 v3 μ r μ' h hq; simp [F_X11_run_24] at h
  | succ n ih =>
    intro v1 v2 v3 μ r μ' h hq
    simp only [F_X11_run_24] at h
    refine hK _ _ _ _ _ _ _ ?_
    rw [fdX11_run_24]
    simp only [gt_nil, true_and, eq_self, gt_iload_n, gt_ink, gw_nth, gt_icmp, gt_aload_n, gt_rfk, gt_v0, gt_v1, gt_v2, gt_v3, gt_v4, gt_v5, gt_iinc, gw_set, gt_goto, bkX11_run_24, ka0_0]
    refine ⟨fun c_1 => ?_, fun c_1 => ?_⟩
    · replace h := gw_ifp2 (gw_c2_ge _ _) h c_1
      refine hK _ _ _ _ _ _ _ ?_
      rw [fdX11_run_39]
      simp only [gt_nil, true_and, eq_self, gt_aload_n, gt_rfk, gw_nth, gt_v0, gt_v1, gt_v2, gt_v3, gt_v4, gt_v5, gt_iload_n, gt_ink, gt_isub, gt_iret, gt_retz, bkX11_run_39, ka0_0]
      obtain ⟨r_2, e_4, h⟩ := gw_bnd h
      refine ⟨rfl, 0, 0, hcc, hss, ok_X11_exitsAll hS0 e_4 ?_⟩
      simp only [gt_nil, true_and, eq_self, gt_iload_n, gt_ink, gw_nth, gt_isub, gt_iret, gt_retz, Option.toList, List.cons_append, List.nil_append, Nat.add_zero, ka0_0]
      obtain ⟨rfl, rfl⟩ := gw_inj2 h
      exact ⟨hcc, hss, hq⟩
    · replace h := gw_ifn2 (gw_c2_ge _ _) h c_1
      obtain ⟨μ_7, e_8, h⟩ := gw_bnd h
      refine ⟨rfl, 0, 0, hcc, hss, ok_X11_goNow hS0 e_8 ?_⟩
      simp only [gt_nil, true_and, eq_self, gt_iinc, gt_ink, gw_nth, gw_set, gt_goto, Option.toList, List.cons_append, List.nil_append, Nat.add_zero, ka0_0]
      obtain ⟨w_10, hw_10, h⟩ := gw_lt h
      try rw [← hw_10]
      exact ih h hq
theorem ok_X11_run {l : Launch} {x : gw_C} {d : Nat} {S : gw_S} {Q : Option Value → gw_S → gw_M → Prop} {v1 : Int32} {a0 : Nat} {n0 : Nat} {μ : gw_M} {r μ'} (hS0 : gw_sh S 11 a0) (h : F_X11_run n0 a0 v1 μ = some (r, μ')) (hq : Q (some (.int r)) S μ') : gw_ok l x (d + 14) sgX11_run 0 0 [.ref a0, .int v1] S μ Q := by
  refine gw_ok_of stX11_run (lv0 := [.ref a0, .int v1, .retAddr 0, .retAddr 0]) (Nat.le_of_ble_eq_true rfl) rfl rfl ?_
  intro K hK
  have hcc : 0 ≤ 0 := Nat.zero_le _
  have hss : 0 ≤ 0 := Nat.zero_le _
  have ka0_0 : gw_kd S a0 = 11 := (hS0 0 _ rfl).1
  unfold F_X11_run at h
  refine hK _ _ _ _ _ _ _ ?_
  rw [fdX11_run_0]
  simp only [gt_nil, true_and, eq_self, gt_aload_n, gt_rfk, gw_nth, gt_iload_n, gt_ink, gt_sipush, gt_v0, gt_v1, gt_v2, gt_v3, gt_v4, gt_v5, gt_if, gt_iconst, gt_iret, gt_retz, bkX11_run_0, ka0_0]
  obtain ⟨r_1, e_3, h⟩ := gw_bnd h
  refine ⟨rfl, 0, 0, hcc, hss, ok_X11_canGo hS0 e_3 ?_⟩
  intro hbr_1
  simp only [gt_nil, true_and, eq_self, gt_if, gt_iconst, gt_iret, gt_retz, Option.toList, List.cons_append, List.nil_append, Nat.add_zero, ka0_0]
  refine ⟨fun c_5 => ?_, fun c_5 => ?_⟩
  · replace h := gw_ifp h c_5
    refine hK _ _ _ _ _ _ _ ?_
    rw [fdX11_run_13]
    simp only [gt_nil, true_and, eq_self, gt_aload_n, gt_rfk, gw_nth, gt_v0, gt_v1, gt_v2, gt_v3, gt_v4, gt_v5, gt_istore_n, gw_set, gt_iconst, bkX11_run_13, ka0_0]
    obtain ⟨μ_7, e_8, h⟩ := gw_bnd h
    refine ⟨rfl, 0, 0, hcc, hss, ok_X11_keep hS0 e_8 ?_⟩
    simp only [gt_nil, true_and, eq_self, gt_aload_n, gt_rfk, gw_nth, gt_v0, gt_v1, gt_v2, gt_v3, gt_v4, gt_v5, gt_istore_n, gw_set, gt_iconst, Option.toList, List.cons_append, List.nil_append, Nat.add_zero, ka0_0]
    obtain ⟨r_10, e_12, h⟩ := gw_bnd h
    refine ⟨rfl, 0, 0, hcc, hss, ok_X11_exitsAll hS0 e_12 ?_⟩
    simp only [gt_nil, true_and, eq_self, gt_istore_n, gw_set, gt_iconst, Option.toList, List.cons_append, List.nil_append, Nat.add_zero, ka0_0]
    exact B_X11_run_24 hcc hss hK hS0 h hq
  · replace h := gw_ifn h c_5
    obtain ⟨rfl, rfl⟩ := gw_inj2 h
    exact ⟨hcc, hss, hq⟩
def F_X11_freeFrames_33 (rec4 : Int32 → Int32 → gw_M → Option (Int32)) (n0 : Nat) (a0 : Nat) (v2 : Int32) (s0 : Int32) (s1 : Int32) (μ : gw_M) : Option (Int32) := gw_let ((s0 ||| s1)) (fun (w_1 : Int32) => gw_let (v2 + 1) (fun (w_2 : Int32) => rec4 w_1 w_2 μ))
def F_X11_freeFrames_4 (n0 : Nat) (a0 : Nat) : Nat → Int32 → Int32 → gw_M → Option (Int32)
  | 0, _, _, _ => none
  | n + 1, v1, v2, μ => (if 16 ≤ v2 then (F_X11_many n0 v1 μ).bind (fun (r_2 : Int32) => some ((10 : Int32) - r_2)) else (F_X11_toOf n0 a0 2 v2 μ).bind (fun (r_6 : Int32) => (if ¬ r_6 = (-1) then (F_X11_toOf n0 a0 2 v2 μ).bind (fun (r_11 : Int32) => F_X11_freeFrames_33 (F_X11_freeFrames_4 n0 a0 n) n0 a0 v2 v1 ((1 : Int32) <<< (r_11 &&& 31)) μ) else F_X11_freeFrames_33 (F_X11_freeFrames_4 n0 a0 n) n0 a0 v2 v1 0 μ)))
def F_X11_freeFrames (n0 : Nat) (a0 : Nat) (μ : gw_M) : Option (Int32) := F_X11_freeFrames_4 n0 a0 n0 0 0 μ
theorem B_X11_freeFrames_33 {l : Launch} {x : gw_C} {d : Nat} {S : gw_S} {Q : Option Value → gw_S → gw_M → Prop} {K : Nat → gw_Kt} {mc ms cc ss : Nat} (hcc : cc ≤ mc) (hss : ss ≤ ms) (hK : gw_cl l x (d + 3) mc ms bsX11_freeFrames Q K) {a0 : Nat} (hS0 : gw_sh S 11 a0) {rec4 : Int32 → Int32 → gw_M → Option (Int32)} (hrec4 : ∀ {v1 v2} {μ : gw_M} {r}, rec4 v1 v2 μ = some r → Q (some (.int r)) S μ → K 4 [.ref a0, .int v1, .int v2] [] S μ cc ss) {n0 : Nat} {v2 s0 s1} {u1 : Value} {μ : gw_M} {r} (h : F_X11_freeFrames_33 rec4 n0 a0 v2 s0 s1 μ = some r) (hq : Q (some (.int r)) S μ) : K 33 [.ref a0, u1, .int v2] [.int s1, .int s0] S μ cc ss := by
  unfold F_X11_freeFrames_33 at h
  refine hK _ _ _ _ _ _ _ ?_
  rw [fdX11_freeFrames_33]
  simp only [gt_nil, true_and, eq_self, gt_ior, gt_istore_n, gw_set, gt_iinc, gt_ink, gw_nth, gt_goto, bkX11_freeFrames_33]
  obtain ⟨w_1, hw_1, h⟩ := gw_lt h
  try rw [← hw_1]
  obtain ⟨w_2, hw_2, h⟩ := gw_lt h
  try rw [← hw_2]
  exact hrec4 h hq
theorem B_X11_freeFrames_4 {l : Launch} {x : gw_C} {d : Nat} {S : gw_S} {Q : Option Value → gw_S → gw_M → Prop} {K : Nat → gw_Kt} {mc ms cc ss : Nat} (hcc : cc ≤ mc) (hss : ss ≤ ms) (hK : gw_cl l x (d + 3) mc ms bsX11_freeFrames Q K) {a0 : Nat} (hS0 : gw_sh S 11 a0) {n0 : Nat} : ∀ {n : Nat} {v1 v2} {μ : gw_M} {r}, F_X11_freeFrames_4 n0 a0 n v1 v2 μ = some r → Q (some (.int r)) S μ → K 4 [.ref a0, .int v1, .int v2] [] S μ cc ss := by
  have ka0_0 : gw_kd S a0 = 11 := (hS0 0 _ rfl).1
  intro n
  induction n with
  | zero => intro v1 v2 μ r h hq; simp [F_X11_freeFrames_4] at h
  | succ n ih =>
    intro v1 v2 μ r h hq
    simp only [F_X11_freeFrames_4] at h
    refine hK _ _ _ _ _ _ _ ?_
    rw [fdX11_freeFrames_4]
    simp only [gt_nil, true_and, eq_self, gt_iload_n, gt_ink, gw_nth, gt_bipush, gt_icmp, gt_aload_n, gt_rfk, gt_iconst, gt_v0, gt_v1, gt_v2, gt_v3, gt_v4, gt_v5, gt_goto, bkX11_freeFrames_4, ka0_0]
    refine ⟨fun c_1 => ?_, fun c_1 => ?_⟩
    · replace h := gw_ifp2 (gw_c2_ge _ _) h c_1
      refine hK _ _ _ _ _ _ _ ?_
      rw [fdX11_freeFrames_41]
      simp only [gt_nil, true_and, eq_self, gt_bipush, gt_iload_n, gt_ink, gw_nth, gt_s1_0, gt_s2_0, gt_s3_0, gt_s4_0, gt_s1_1, gt_s2_1, gt_s3_1, gt_s4_1, gt_acpy, gt_isub, gt_iret, gt_retz, bkX11_freeFrames_41, ka0_0]
      obtain ⟨r_2, e_4, h⟩ := gw_bnd h
      refine ⟨rfl, 0, 0, hcc, hss, ok_X11_many e_4 ?_⟩
      simp only [gt_nil, true_and, eq_self, gt_isub, gt_iret, gt_retz, Option.toList, List.cons_append, List.nil_append, Nat.add_zero, ka0_0]
      obtain rfl := gw_inj1 h
      exact ⟨hcc, hss, hq⟩
    · replace h := gw_ifn2 (gw_c2_ge _ _) h c_1
      obtain ⟨r_6, e_8, h⟩ := gw_bnd h
      refine ⟨rfl, 0, 0, hcc, hss, ok_X11_toOf hS0 e_8 ?_⟩
      simp only [gt_nil, true_and, eq_self, gt_iconst, gt_icmp, gt_goto, Option.toList, List.cons_append, List.nil_append, Nat.add_zero, ka0_0]
      refine ⟨fun c_10 => ?_, fun c_10 => ?_⟩
      · replace h := gw_ifp2 (gw_c2_ne _ _) h c_10
        refine hK _ _ _ _ _ _ _ ?_
        rw [fdX11_freeFrames_25]
        simp only [gt_nil, true_and, eq_self, gt_iconst, gt_aload_n, gt_rfk, gw_nth, gt_iload_n, gt_ink, gt_v0, gt_v1, gt_v2, gt_v3, gt_v4, gt_v5, gt_ishl, bkX11_freeFrames_25, ka0_0]
        obtain ⟨r_11, e_13, h⟩ := gw_bnd h
        refine ⟨rfl, 0, 0, hcc, hss, ok_X11_toOf hS0 e_13 ?_⟩
        simp only [gt_nil, true_and, eq_self, gt_ishl, Option.toList, List.cons_append, List.nil_append, Nat.add_zero, ka0_0]
        exact B_X11_freeFrames_33 hcc hss hK hS0 ih h hq
      · replace h := gw_ifn2 (gw_c2_ne _ _) h c_10
        exact B_X11_freeFrames_33 hcc hss hK hS0 ih h hq
theorem ok_X11_freeFrames {l : Launch} {x : gw_C} {d : Nat} {S : gw_S} {Q : Option Value → gw_S → gw_M → Prop} {a0 : Nat} {n0 : Nat} {μ : gw_M} {r} (hS0 : gw_sh S 11 a0) (h : F_X11_freeFrames n0 a0 μ = some r) (hq : Q (some (.int r)) S μ) : gw_ok l x (d + 4) sgX11_freeFrames 0 0 [.ref a0] S μ Q := by
  refine gw_ok_of stX11_freeFrames (lv0 := [.ref a0, .retAddr 0, .retAddr 0]) (Nat.le_of_ble_eq_true rfl) rfl rfl ?_
  intro K hK
  have hcc : 0 ≤ 0 := Nat.zero_le _
  have hss : 0 ≤ 0 := Nat.zero_le _
  unfold F_X11_freeFrames at h
  refine hK _ _ _ _ _ _ _ ?_
  rw [fdX11_freeFrames_0]
  simp only [gt_nil, true_and, eq_self, gt_iconst, gt_istore_n, gw_set, bkX11_freeFrames_0]
  exact B_X11_freeFrames_4 hcc hss hK hS0 h hq
def F_X11_is_156 (n0 : Nat) (a0 : Nat) (v1 : Int32) (μ : gw_M) : Option (Int32) := (F_X11_isIn n0 v1 5 10 μ).bind (fun (r_1 : Int32) => (if r_1 = 0 then (F_X11_isIn n0 v1 13 16 μ).bind (fun (r_6 : Int32) => (if r_6 = 0 then some (-1) else (if 0 ≤ (((11 : Int32) + v1) - (13 : Int32)) ∧ (((11 : Int32) + v1) - (13 : Int32)).toNatClampNeg < 20813 then some (μ (a0 + 1) (((11 : Int32) + v1) - (13 : Int32)).toNatClampNeg) else none))) else (if 0 ≤ (((5 : Int32) + v1) - (5 : Int32)) ∧ (((5 : Int32) + v1) - (5 : Int32)).toNatClampNeg < 20813 then some (μ (a0 + 1) (((5 : Int32) + v1) - (5 : Int32)).toNatClampNeg) else none)))
def F_X11_is (n0 : Nat) (a0 : Nat) (v1 : Int32) (μ : gw_M) : Option (Int32) := (if v1 = (0 : Int32) then some (μ (a0 + 1) 2) else (if v1 = ((0 : Int32) + 1) then some (μ (a0 + 1) 3) else (if v1 = (((0 : Int32) + 1) + 1) then some (μ (a0 + 1) 4) else (if v1 = ((((0 : Int32) + 1) + 1) + 1) then some (μ (a0 + 1) 23) else (if v1 = (((((0 : Int32) + 1) + 1) + 1) + 1) then (F_X11_freeFrames n0 a0 μ).bind (fun (r_6 : Int32) => some r_6) else (if v1 = ((((((0 : Int32) + 1) + 1) + 1) + 1) + 1) then F_X11_is_156 n0 a0 v1 μ else (if v1 = (((((((0 : Int32) + 1) + 1) + 1) + 1) + 1) + 1) then F_X11_is_156 n0 a0 v1 μ else (if v1 = ((((((((0 : Int32) + 1) + 1) + 1) + 1) + 1) + 1) + 1) then F_X11_is_156 n0 a0 v1 μ else (if v1 = (((((((((0 : Int32) + 1) + 1) + 1) + 1) + 1) + 1) + 1) + 1) then F_X11_is_156 n0 a0 v1 μ else (if v1 = ((((((((((0 : Int32) + 1) + 1) + 1) + 1) + 1) + 1) + 1) + 1) + 1) then F_X11_is_156 n0 a0 v1 μ else (if v1 = (((((((((((0 : Int32) + 1) + 1) + 1) + 1) + 1) + 1) + 1) + 1) + 1) + 1) then F_X11_is_156 n0 a0 v1 μ else (if v1 = ((((((((((((0 : Int32) + 1) + 1) + 1) + 1) + 1) + 1) + 1) + 1) + 1) + 1) + 1) then (F_X11_guestAt n0 a0 1 μ).bind (fun (r_17 : Int32) => (if 0 ≤ (r_17 + (5 : Int32)) ∧ (r_17 + (5 : Int32)).toNatClampNeg < 20813 then some (μ (a0 + 1) (r_17 + (5 : Int32)).toNatClampNeg) else none)) else (if v1 = (((((((((((((0 : Int32) + 1) + 1) + 1) + 1) + 1) + 1) + 1) + 1) + 1) + 1) + 1) + 1) then (F_X11_guestAt n0 a0 2 μ).bind (fun (r_23 : Int32) => (if 0 ≤ (r_23 + (5 : Int32)) ∧ (r_23 + (5 : Int32)).toNatClampNeg < 20813 then some (μ (a0 + 1) (r_23 + (5 : Int32)).toNatClampNeg) else none)) else (if v1 = ((((((((((((((0 : Int32) + 1) + 1) + 1) + 1) + 1) + 1) + 1) + 1) + 1) + 1) + 1) + 1) + 1) then F_X11_is_156 n0 a0 v1 μ else (if v1 = (((((((((((((((0 : Int32) + 1) + 1) + 1) + 1) + 1) + 1) + 1) + 1) + 1) + 1) + 1) + 1) + 1) + 1) then F_X11_is_156 n0 a0 v1 μ else (if v1 = ((((((((((((((((0 : Int32) + 1) + 1) + 1) + 1) + 1) + 1) + 1) + 1) + 1) + 1) + 1) + 1) + 1) + 1) + 1) then F_X11_is_156 n0 a0 v1 μ else (if v1 = (((((((((((((((((0 : Int32) + 1) + 1) + 1) + 1) + 1) + 1) + 1) + 1) + 1) + 1) + 1) + 1) + 1) + 1) + 1) + 1) then F_X11_is_156 n0 a0 v1 μ else (if v1 = ((((((((((((((((((0 : Int32) + 1) + 1) + 1) + 1) + 1) + 1) + 1) + 1) + 1) + 1) + 1) + 1) + 1) + 1) + 1) + 1) + 1) then some (μ (a0 + 1) 15) else F_X11_is_156 n0 a0 v1 μ))))))))))))))))))
theorem B_X11_is_156 {l : Launch} {x : gw_C} {d : Nat} {S : gw_S} {Q : Option Value → gw_S → gw_M → Prop} {K : Nat → gw_Kt} {mc ms cc ss : Nat} (hcc : cc ≤ mc) (hss : ss ≤ ms) (hK : gw_cl l x (d + 4) mc ms bsX11_is Q K) {a0 : Nat} (hS0 : gw_sh S 11 a0) {n0 : Nat} {v1} {μ : gw_M} {r} (h : F_X11_is_156 n0 a0 v1 μ = some r) (hq : Q (some (.int r)) S μ) : K 156 [.ref a0, .int v1] [] S μ cc ss := by
  have ka0_0 : gw_kd S a0 = 11 := (hS0 0 _ rfl).1
  have ra0_0_0 : gw_rf S a0 0 = a0 + 1 := (hS0 0 _ rfl).2.2 (0, 1) (by decide)
  have ka0_1 : gw_kd S (a0 + 1) = 12 := (hS0 1 _ rfl).1
  have la0_1 : gw_ln S (a0 + 1) = 20813 := (hS0 1 _ rfl).2.1
  unfold F_X11_is_156 at h
  refine hK _ _ _ _ _ _ _ ?_
  rw [fdX11_is_156]
  simp -implicitDefEqProofs only [gt_nil, true_and, eq_self, gt_iload_n, gt_ink, gw_nth, gt_iconst, gt_bipush, gt_s1_0, gt_s2_0, gt_s3_0, gt_s4_0, gt_s1_1, gt_s2_1, gt_s3_1, gt_s4_1, gt_acpy, gt_if, gt_aload_n, gt_rfk, gt_get_r, gt_get_i, gt_get_z, gt_iadd, gt_isub, gt_iaload, gt_goto, bkX11_is_156, ka0_0, ra0_0_0, ka0_1, la0_1]
  obtain ⟨r_1, e_3, h⟩ := gw_bnd h
  refine ⟨rfl, 0, 0, hcc, hss, ok_X11_isIn e_3 ?_⟩
  intro hbr_1
  simp -implicitDefEqProofs only [gt_nil, true_and, eq_self, gt_if, gt_aload_n, gt_rfk, gw_nth, gt_get_r, gt_get_i, gt_get_z, gt_iconst, gt_iload_n, gt_ink, gt_iadd, gt_isub, gt_iaload, gt_goto, Option.toList, List.cons_append, List.nil_append, Nat.add_zero, ka0_0, ra0_0_0, ka0_1, la0_1]
  refine ⟨fun c_5 => ?_, fun c_5 => ?_⟩
  · replace h := gw_ifp h c_5
    refine hK _ _ _ _ _ _ _ ?_
    rw [fdX11_is_179]
    simp -implicitDefEqProofs only [gt_nil, true_and, eq_self, gt_iload_n, gt_ink, gw_nth, gt_bipush, gt_s1_0, gt_s2_0, gt_s3_0, gt_s4_0, gt_s1_1, gt_s2_1, gt_s3_1, gt_s4_1, gt_acpy, gt_if, gt_aload_n, gt_rfk, gt_get_r, gt_get_i, gt_get_z, gt_iadd, gt_isub, gt_iaload, gt_goto, bkX11_is_179, ka0_0, ra0_0_0, ka0_1, la0_1]
    obtain ⟨r_6, e_8, h⟩ := gw_bnd h
    refine ⟨rfl, 0, 0, hcc, hss, ok_X11_isIn e_8 ?_⟩
    intro hbr_6
    simp -implicitDefEqProofs only [gt_nil, true_and, eq_self, gt_if, gt_aload_n, gt_rfk, gw_nth, gt_get_r, gt_get_i, gt_get_z, gt_bipush, gt_iload_n, gt_ink, gt_iadd, gt_isub, gt_iaload, gt_goto, Option.toList, List.cons_append, List.nil_append, Nat.add_zero, ka0_0, ra0_0_0, ka0_1, la0_1]
    refine ⟨fun c_10 => ?_, fun c_10 => ?_⟩
    · replace h := gw_ifp h c_10
      refine hK _ _ _ _ _ _ _ ?_
      rw [fdX11_is_205]
      simp -implicitDefEqProofs only [gt_nil, true_and, eq_self, gt_iconst, bkX11_is_205, ka0_0, ra0_0_0, ka0_1, la0_1]
      refine hK _ _ _ _ _ _ _ ?_
      rw [fdX11_is_206]
      simp -implicitDefEqProofs only [gt_nil, true_and, eq_self, gt_iret, gt_retz, bkX11_is_206, ka0_0, ra0_0_0, ka0_1, la0_1]
      obtain rfl := gw_inj1 h
      exact ⟨hcc, hss, hq⟩
    · replace h := gw_ifn h c_10
      obtain ⟨c_11, h⟩ := gw_ife h
      refine ⟨c_11, ?_⟩
      refine hK _ _ _ _ _ _ _ ?_
      rw [fdX11_is_206]
      simp -implicitDefEqProofs only [gt_nil, true_and, eq_self, gt_iret, gt_retz, bkX11_is_206, ka0_0, ra0_0_0, ka0_1, la0_1]
      obtain rfl := gw_inj1 h
      exact ⟨hcc, hss, hq⟩
  · replace h := gw_ifn h c_5
    obtain ⟨c_12, h⟩ := gw_ife h
    refine ⟨c_12, ?_⟩
    refine hK _ _ _ _ _ _ _ ?_
    rw [fdX11_is_206]
    simp -implicitDefEqProofs only [gt_nil, true_and, eq_self, gt_iret, gt_retz, bkX11_is_206, ka0_0, ra0_0_0, ka0_1, la0_1]
    obtain rfl := gw_inj1 h
    exact ⟨hcc, hss, hq⟩
theorem ok_X11_is {l : Launch} {x : gw_C} {d : Nat} {S : gw_S} {Q : Option Value → gw_S → gw_M → Prop} {v1 : Int32} {a0 : Nat} {n0 : Nat} {μ : gw_M} {r} (hS0 : gw_sh S 11 a0) (h : F_X11_is n0 a0 v1 μ = some r) (hq : Q (some (.int r)) S μ) : gw_ok l x (d + 5) sgX11_is 0 0 [.ref a0, .int v1] S μ Q := by
  refine gw_ok_of stX11_is (lv0 := [.ref a0, .int v1]) (Nat.le_of_ble_eq_true rfl) rfl rfl ?_
  intro K hK
  have hcc : 0 ≤ 0 := Nat.zero_le _
  have hss : 0 ≤ 0 := Nat.zero_le _
  have ka0_0 : gw_kd S a0 = 11 := (hS0 0 _ rfl).1
  have ra0_0_0 : gw_rf S a0 0 = a0 + 1 := (hS0 0 _ rfl).2.2 (0, 1) (by decide)
  have ka0_1 : gw_kd S (a0 + 1) = 12 := (hS0 1 _ rfl).1
  have la0_1 : gw_ln S (a0 + 1) = 20813 := (hS0 1 _ rfl).2.1
  unfold F_X11_is at h
  refine hK _ _ _ _ _ _ _ ?_
  rw [fdX11_is_0]
  simp -implicitDefEqProofs only [gt_nil, true_and, eq_self, gt_iload_n, gt_ink, gw_nth, gt_tsw, gw_sw, bkX11_is_0, ka0_0, ra0_0_0, ka0_1, la0_1, (show Int32.toNatClampNeg 15 = 15 from rfl), (show Int32.toNatClampNeg 2 = 2 from rfl), (show Int32.toNatClampNeg 23 = 23 from rfl), (show Int32.toNatClampNeg 3 = 3 from rfl), (show Int32.toNatClampNeg 4 = 4 from rfl)]
  refine ⟨fun c_1 => ?_, fun c_1 => ?_⟩
  · replace h := gw_ifp h c_1
    refine hK _ _ _ _ _ _ _ ?_
    rw [fdX11_is_88]
    simp -implicitDefEqProofs only [gt_nil, true_and, eq_self, gt_aload_n, gt_rfk, gw_nth, gt_get_r, gt_get_i, gt_get_z, gt_iconst, gt_iaload, gt_iret, gt_retz, bkX11_is_88, ka0_0, ra0_0_0, ka0_1, la0_1, (show Int32.toNatClampNeg 15 = 15 from rfl), (show Int32.toNatClampNeg 2 = 2 from rfl), (show Int32.toNatClampNeg 23 = 23 from rfl), (show Int32.toNatClampNeg 3 = 3 from rfl), (show Int32.toNatClampNeg 4 = 4 from rfl)]
    refine ⟨(⟨by decide, by decide⟩ : gw_in 2 20813), ?_⟩
    obtain rfl := gw_inj1 h
    exact ⟨hcc, hss, hq⟩
  replace h := gw_ifn h c_1
  refine ⟨fun c_2 => ?_, fun c_2 => ?_⟩
  · replace h := gw_ifp h c_2
    refine hK _ _ _ _ _ _ _ ?_
    rw [fdX11_is_95]
    simp -implicitDefEqProofs only [gt_nil, true_and, eq_self, gt_aload_n, gt_rfk, gw_nth, gt_get_r, gt_get_i, gt_get_z, gt_iconst, gt_iaload, gt_iret, gt_retz, bkX11_is_95, ka0_0, ra0_0_0, ka0_1, la0_1, (show Int32.toNatClampNeg 15 = 15 from rfl), (show Int32.toNatClampNeg 2 = 2 from rfl), (show Int32.toNatClampNeg 23 = 23 from rfl), (show Int32.toNatClampNeg 3 = 3 from rfl), (show Int32.toNatClampNeg 4 = 4 from rfl)]
    refine ⟨(⟨by decide, by decide⟩ : gw_in 3 20813), ?_⟩
    obtain rfl := gw_inj1 h
    exact ⟨hcc, hss, hq⟩
  replace h := gw_ifn h c_2
  refine ⟨fun c_3 => ?_, fun c_3 => ?_⟩
  · replace h := gw_ifp h c_3
    refine hK _ _ _ _ _ _ _ ?_
    rw [fdX11_is_102]
    simp -implicitDefEqProofs only [gt_nil, true_and, eq_self, gt_aload_n, gt_rfk, gw_nth, gt_get_r, gt_get_i, gt_get_z, gt_iconst, gt_iaload, gt_iret, gt_retz, bkX11_is_102, ka0_0, ra0_0_0, ka0_1, la0_1, (show Int32.toNatClampNeg 15 = 15 from rfl), (show Int32.toNatClampNeg 2 = 2 from rfl), (show Int32.toNatClampNeg 23 = 23 from rfl), (show Int32.toNatClampNeg 3 = 3 from rfl), (show Int32.toNatClampNeg 4 = 4 from rfl)]
    refine ⟨(⟨by decide, by decide⟩ : gw_in 4 20813), ?_⟩
    obtain rfl := gw_inj1 h
    exact ⟨hcc, hss, hq⟩
  replace h := gw_ifn h c_3
  refine ⟨fun c_4 => ?_, fun c_4 => ?_⟩
  · replace h := gw_ifp h c_4
    refine hK _ _ _ _ _ _ _ ?_
    rw [fdX11_is_109]
    simp -implicitDefEqProofs only [gt_nil, true_and, eq_self, gt_aload_n, gt_rfk, gw_nth, gt_get_r, gt_get_i, gt_get_z, gt_bipush, gt_iaload, gt_iret, gt_retz, bkX11_is_109, ka0_0, ra0_0_0, ka0_1, la0_1, (show Int32.toNatClampNeg 15 = 15 from rfl), (show Int32.toNatClampNeg 2 = 2 from rfl), (show Int32.toNatClampNeg 23 = 23 from rfl), (show Int32.toNatClampNeg 3 = 3 from rfl), (show Int32.toNatClampNeg 4 = 4 from rfl)]
    refine ⟨(⟨by decide, by decide⟩ : gw_in 23 20813), ?_⟩
    obtain rfl := gw_inj1 h
    exact ⟨hcc, hss, hq⟩
  replace h := gw_ifn h c_4
  refine ⟨fun c_5 => ?_, fun c_5 => ?_⟩
  · replace h := gw_ifp h c_5
    refine hK _ _ _ _ _ _ _ ?_
    rw [fdX11_is_117]
    simp -implicitDefEqProofs only [gt_nil, true_and, eq_self, gt_aload_n, gt_rfk, gw_nth, gt_v0, gt_v1, gt_v2, gt_v3, gt_v4, gt_v5, gt_iret, gt_retz, bkX11_is_117, ka0_0, ra0_0_0, ka0_1, la0_1, (show Int32.toNatClampNeg 15 = 15 from rfl), (show Int32.toNatClampNeg 2 = 2 from rfl), (show Int32.toNatClampNeg 23 = 23 from rfl), (show Int32.toNatClampNeg 3 = 3 from rfl), (show Int32.toNatClampNeg 4 = 4 from rfl)]
    obtain ⟨r_6, e_8, h⟩ := gw_bnd h
    refine ⟨rfl, 0, 0, hcc, hss, ok_X11_freeFrames hS0 e_8 ?_⟩
    simp -implicitDefEqProofs only [gt_nil, true_and, eq_self, gt_iret, gt_retz, Option.toList, List.cons_append, List.nil_append, Nat.add_zero, ka0_0, ra0_0_0, ka0_1, la0_1, (show Int32.toNatClampNeg 15 = 15 from rfl), (show Int32.toNatClampNeg 2 = 2 from rfl), (show Int32.toNatClampNeg 23 = 23 from rfl), (show Int32.toNatClampNeg 3 = 3 from rfl), (show Int32.toNatClampNeg 4 = 4 from rfl)]
    obtain rfl := gw_inj1 h
    exact ⟨hcc, hss, hq⟩
  replace h := gw_ifn h c_5
  refine ⟨fun c_10 => ?_, fun c_10 => ?_⟩
  · replace h := gw_ifp h c_10
    exact B_X11_is_156 hcc hss hK hS0 h hq
  replace h := gw_ifn h c_10
  refine ⟨fun c_11 => ?_, fun c_11 => ?_⟩
  · replace h := gw_ifp h c_11
    exact B_X11_is_156 hcc hss hK hS0 h hq
  replace h := gw_ifn h c_11
  refine ⟨fun c_12 => ?_, fun c_12 => ?_⟩
  · replace h := gw_ifp h c_12
    exact B_X11_is_156 hcc hss hK hS0 h hq
  replace h := gw_ifn h c_12
  refine ⟨fun c_13 => ?_, fun c_13 => ?_⟩
  · replace h := gw_ifp h c_13
    exact B_X11_is_156 hcc hss hK hS0 h hq
  replace h := gw_ifn h c_13
  refine ⟨fun c_14 => ?_, fun c_14 => ?_⟩
  · replace h := gw_ifp h c_14
    exact B_X11_is_156 hcc hss hK hS0 h hq
  replace h := gw_ifn h c_14
  refine ⟨fun c_15 => ?_, fun c_15 => ?_⟩
  · replace h := gw_ifp h c_15
    exact B_X11_is_156 hcc hss hK hS0 h hq
  replace h := gw_ifn h c_15
  refine ⟨fun c_16 => ?_, fun c_16 => ?_⟩
  · replace h := gw_ifp h c_16
    refine hK _ _ _ _ _ _ _ ?_
    rw [fdX11_is_122]
    simp -implicitDefEqProofs only [gt_nil, true_and, eq_self, gt_aload_n, gt_rfk, gw_nth, gt_get_r, gt_get_i, gt_get_z, gt_iconst, gt_v0, gt_v1, gt_v2, gt_v3, gt_v4, gt_v5, gt_iadd, gt_iaload, gt_iret, gt_retz, bkX11_is_122, ka0_0, ra0_0_0, ka0_1, la0_1, (show Int32.toNatClampNeg 15 = 15 from rfl), (show Int32.toNatClampNeg 2 = 2 from rfl), (show Int32.toNatClampNeg 23 = 23 from rfl), (show Int32.toNatClampNeg 3 = 3 from rfl), (show Int32.toNatClampNeg 4 = 4 from rfl)]
    obtain ⟨r_17, e_19, h⟩ := gw_bnd h
    refine ⟨rfl, 0, 0, hcc, hss, ok_X11_guestAt hS0 e_19 ?_⟩
    simp -implicitDefEqProofs only [gt_nil, true_and, eq_self, gt_iconst, gt_iadd, gt_iaload, gt_iret, gt_retz, Option.toList, List.cons_append, List.nil_append, Nat.add_zero, ka0_0, ra0_0_0, ka0_1, la0_1, (show Int32.toNatClampNeg 15 = 15 from rfl), (show Int32.toNatClampNeg 2 = 2 from rfl), (show Int32.toNatClampNeg 23 = 23 from rfl), (show Int32.toNatClampNeg 3 = 3 from rfl), (show Int32.toNatClampNeg 4 = 4 from rfl)]
    obtain ⟨c_21, h⟩ := gw_ife h
    refine ⟨c_21, ?_⟩
    obtain rfl := gw_inj1 h
    exact ⟨hcc, hss, hq⟩
  replace h := gw_ifn h c_16
  refine ⟨fun c_22 => ?_, fun c_22 => ?_⟩
  · replace h := gw_ifp h c_22
    refine hK _ _ _ _ _ _ _ ?_
    rw [fdX11_is_135]
    simp -implicitDefEqProofs only [gt_nil, true_and, eq_self, gt_aload_n, gt_rfk, gw_nth, gt_get_r, gt_get_i, gt_get_z, gt_iconst, gt_v0, gt_v1, gt_v2, gt_v3, gt_v4, gt_v5, gt_iadd, gt_iaload, gt_iret, gt_retz, bkX11_is_135, ka0_0, ra0_0_0, ka0_1, la0_1, (show Int32.toNatClampNeg 15 = 15 from rfl), (show Int32.toNatClampNeg 2 = 2 from rfl), (show Int32.toNatClampNeg 23 = 23 from rfl), (show Int32.toNatClampNeg 3 = 3 from rfl), (show Int32.toNatClampNeg 4 = 4 from rfl)]
    obtain ⟨r_23, e_25, h⟩ := gw_bnd h
    refine ⟨rfl, 0, 0, hcc, hss, ok_X11_guestAt hS0 e_25 ?_⟩
    simp -implicitDefEqProofs only [gt_nil, true_and, eq_self, gt_iconst, gt_iadd, gt_iaload, gt_iret, gt_retz, Option.toList, List.cons_append, List.nil_append, Nat.add_zero, ka0_0, ra0_0_0, ka0_1, la0_1, (show Int32.toNatClampNeg 15 = 15 from rfl), (show Int32.toNatClampNeg 2 = 2 from rfl), (show Int32.toNatClampNeg 23 = 23 from rfl), (show Int32.toNatClampNeg 3 = 3 from rfl), (show Int32.toNatClampNeg 4 = 4 from rfl)]
    obtain ⟨c_27, h⟩ := gw_ife h
    refine ⟨c_27, ?_⟩
    obtain rfl := gw_inj1 h
    exact ⟨hcc, hss, hq⟩
  replace h := gw_ifn h c_22
  refine ⟨fun c_28 => ?_, fun c_28 => ?_⟩
  · replace h := gw_ifp h c_28
    exact B_X11_is_156 hcc hss hK hS0 h hq
  replace h := gw_ifn h c_28
  refine ⟨fun c_29 => ?_, fun c_29 => ?_⟩
  · replace h := gw_ifp h c_29
    exact B_X11_is_156 hcc hss hK hS0 h hq
  replace h := gw_ifn h c_29
  refine ⟨fun c_30 => ?_, fun c_30 => ?_⟩
  · replace h := gw_ifp h c_30
    exact B_X11_is_156 hcc hss hK hS0 h hq
  replace h := gw_ifn h c_30
  refine ⟨fun c_31 => ?_, fun c_31 => ?_⟩
  · replace h := gw_ifp h c_31
    exact B_X11_is_156 hcc hss hK hS0 h hq
  replace h := gw_ifn h c_31
  refine ⟨fun c_32 => ?_, fun c_32 => ?_⟩
  · replace h := gw_ifp h c_32
    refine hK _ _ _ _ _ _ _ ?_
    rw [fdX11_is_148]
    simp -implicitDefEqProofs only [gt_nil, true_and, eq_self, gt_aload_n, gt_rfk, gw_nth, gt_get_r, gt_get_i, gt_get_z, gt_bipush, gt_iaload, gt_iret, gt_retz, bkX11_is_148, ka0_0, ra0_0_0, ka0_1, la0_1, (show Int32.toNatClampNeg 15 = 15 from rfl), (show Int32.toNatClampNeg 2 = 2 from rfl), (show Int32.toNatClampNeg 23 = 23 from rfl), (show Int32.toNatClampNeg 3 = 3 from rfl), (show Int32.toNatClampNeg 4 = 4 from rfl)]
    refine ⟨(⟨by decide, by decide⟩ : gw_in 15 20813), ?_⟩
    obtain rfl := gw_inj1 h
    exact ⟨hcc, hss, hq⟩
  replace h := gw_ifn h c_32
  exact B_X11_is_156 hcc hss hK hS0 h hq
def F_X11_told (n0 : Nat) (a0 : Nat) (v1 : Int32) (v2 : Int32) (v3 : Int32) (μ : gw_M) : Option (Int32) := (F_X11_isIn n0 v1 0 3 μ).bind (fun (r_1 : Int32) => (if r_1 = 0 then some (-1) else (F_X11_isPage n0 v2 μ).bind (fun (r_6 : Int32) => (if r_6 = 0 then some (-1) else (F_X11_isIn n0 v3 0 1 μ).bind (fun (r_11 : Int32) => (if r_11 = 0 then some (-1) else (F_X11_toOf n0 a0 v1 v2 μ).bind (fun (r_16 : Int32) => (if ¬ r_16 = (-1) then (F_X11_entryAt n0 a0 v1 v2 μ).bind (fun (r_21 : Int32) => (if 0 ≤ (r_21 + v3) ∧ (r_21 + v3).toNatClampNeg < 20813 then some (μ (a0 + 1) (r_21 + v3).toNatClampNeg) else none)) else some (-1)))))))))
theorem ok_X11_told {l : Launch} {x : gw_C} {d : Nat} {S : gw_S} {Q : Option Value → gw_S → gw_M → Prop} {v1 v2 v3 : Int32} {a0 : Nat} {n0 : Nat} {μ : gw_M} {r} (hS0 : gw_sh S 11 a0) (h : F_X11_told n0 a0 v1 v2 v3 μ = some r) (hq : Q (some (.int r)) S μ) : gw_ok l x (d + 4) sgX11_told 0 0 [.ref a0, .int v1, .int v2, .int v3] S μ Q := by
  refine gw_ok_of stX11_told (lv0 := [.ref a0, .int v1, .int v2, .int v3]) (Nat.le_of_ble_eq_true rfl) rfl rfl ?_
  intro K hK
  have hcc : 0 ≤ 0 := Nat.zero_le _
  have hss : 0 ≤ 0 := Nat.zero_le _
  have ka0_0 : gw_kd S a0 = 11 := (hS0 0 _ rfl).1
  have ra0_0_0 : gw_rf S a0 0 = a0 + 1 := (hS0 0 _ rfl).2.2 (0, 1) (by decide)
  have ka0_1 : gw_kd S (a0 + 1) = 12 := (hS0 1 _ rfl).1
  have la0_1 : gw_ln S (a0 + 1) = 20813 := (hS0 1 _ rfl).2.1
  unfold F_X11_told at h
  refine hK _ _ _ _ _ _ _ ?_
  rw [fdX11_told_0]
  simp only [gt_nil, true_and, eq_self, gt_iload_n, gt_ink, gw_nth, gt_iconst, gt_s1_0, gt_s2_0, gt_s3_0, gt_s4_0, gt_s1_1, gt_s2_1, gt_s3_1, gt_s4_1, gt_acpy, gt_if, gt_aload_n, gt_rfk, gt_v0, gt_v1, gt_v2, gt_v3, gt_v4, gt_v5, gt_icmp, bkX11_told_0, ka0_0, ra0_0_0, ka0_1, la0_1]
  obtain ⟨r_1, e_3, h⟩ := gw_bnd h
  refine ⟨rfl, 0, 0, hcc, hss, ok_X11_isIn e_3 ?_⟩
  intro hbr_1
  simp only [gt_nil, true_and, eq_self, gt_if, gt_iload_n, gt_ink, gw_nth, gt_s1_0, gt_s2_0, gt_s3_0, gt_s4_0, gt_s1_1, gt_s2_1, gt_s3_1, gt_s4_1, gt_acpy, gt_iconst, gt_aload_n, gt_rfk, gt_v0, gt_v1, gt_v2, gt_v3, gt_v4, gt_v5, gt_icmp, Option.toList, List.cons_append, List.nil_append, Nat.add_zero, ka0_0, ra0_0_0, ka0_1, la0_1]
  refine ⟨fun c_5 => ?_, fun c_5 => ?_⟩
  · replace h := gw_ifp h c_5
    refine hK _ _ _ _ _ _ _ ?_
    rw [fdX11_told_35]
    simp only [gt_nil, true_and, eq_self, gt_iconst, gt_iret, gt_retz, bkX11_told_35, ka0_0, ra0_0_0, ka0_1, la0_1]
    obtain rfl := gw_inj1 h
    exact ⟨hcc, hss, hq⟩
  · replace h := gw_ifn h c_5
    obtain ⟨r_6, e_8, h⟩ := gw_bnd h
    refine ⟨rfl, 0, 0, hcc, hss, ok_X11_isPage e_8 ?_⟩
    intro hbr_6
    simp only [gt_nil, true_and, eq_self, gt_if, gt_iload_n, gt_ink, gw_nth, gt_iconst, gt_s1_0, gt_s2_0, gt_s3_0, gt_s4_0, gt_s1_1, gt_s2_1, gt_s3_1, gt_s4_1, gt_acpy, gt_aload_n, gt_rfk, gt_v0, gt_v1, gt_v2, gt_v3, gt_v4, gt_v5, gt_icmp, Option.toList, List.cons_append, List.nil_append, Nat.add_zero, ka0_0, ra0_0_0, ka0_1, la0_1]
    refine ⟨fun c_10 => ?_, fun c_10 => ?_⟩
    · replace h := gw_ifp h c_10
      refine hK _ _ _ _ _ _ _ ?_
      rw [fdX11_told_35]
      simp only [gt_nil, true_and, eq_self, gt_iconst, gt_iret, gt_retz, bkX11_told_35, ka0_0, ra0_0_0, ka0_1, la0_1]
      obtain rfl := gw_inj1 h
      exact ⟨hcc, hss, hq⟩
    · replace h := gw_ifn h c_10
      obtain ⟨r_11, e_13, h⟩ := gw_bnd h
      refine ⟨rfl, 0, 0, hcc, hss, ok_X11_isIn e_13 ?_⟩
      intro hbr_11
      simp only [gt_nil, true_and, eq_self, gt_if, gt_aload_n, gt_rfk, gw_nth, gt_iload_n, gt_ink, gt_v0, gt_v1, gt_v2, gt_v3, gt_v4, gt_v5, gt_iconst, gt_icmp, Option.toList, List.cons_append, List.nil_append, Nat.add_zero, ka0_0, ra0_0_0, ka0_1, la0_1]
      refine ⟨fun c_15 => ?_, fun c_15 => ?_⟩
      · replace h := gw_ifp h c_15
        refine hK _ _ _ _ _ _ _ ?_
        rw [fdX11_told_35]
        simp only [gt_nil, true_and, eq_self, gt_iconst, gt_iret, gt_retz, bkX11_told_35, ka0_0, ra0_0_0, ka0_1, la0_1]
        obtain rfl := gw_inj1 h
        exact ⟨hcc, hss, hq⟩
      · replace h := gw_ifn h c_15
        obtain ⟨r_16, e_18, h⟩ := gw_bnd h
        refine ⟨rfl, 0, 0, hcc, hss, ok_X11_toOf hS0 e_18 ?_⟩
        simp only [gt_nil, true_and, eq_self, gt_iconst, gt_icmp, Option.toList, List.cons_append, List.nil_append, Nat.add_zero, ka0_0, ra0_0_0, ka0_1, la0_1]
        refine ⟨fun c_20 => ?_, fun c_20 => ?_⟩
        · replace h := gw_ifp2 (gw_c2_ne _ _) h c_20
          refine hK _ _ _ _ _ _ _ ?_
          rw [fdX11_told_37]
          simp only [gt_nil, true_and, eq_self, gt_aload_n, gt_rfk, gw_nth, gt_get_r, gt_get_i, gt_get_z, gt_iload_n, gt_ink, gt_v0, gt_v1, gt_v2, gt_v3, gt_v4, gt_v5, gt_iadd, gt_iaload, gt_iret, gt_retz, bkX11_told_37, ka0_0, ra0_0_0, ka0_1, la0_1]
          obtain ⟨r_21, e_23, h⟩ := gw_bnd h
          refine ⟨rfl, 0, 0, hcc, hss, ok_X11_entryAt hS0 e_23 ?_⟩
          simp only [gt_nil, true_and, eq_self, gt_iload_n, gt_ink, gw_nth, gt_iadd, gt_iaload, gt_iret, gt_retz, Option.toList, List.cons_append, List.nil_append, Nat.add_zero, ka0_0, ra0_0_0, ka0_1, la0_1]
          obtain ⟨c_25, h⟩ := gw_ife h
          refine ⟨c_25, ?_⟩
          obtain rfl := gw_inj1 h
          exact ⟨hcc, hss, hq⟩
        · replace h := gw_ifn2 (gw_c2_ne _ _) h c_20
          refine hK _ _ _ _ _ _ _ ?_
          rw [fdX11_told_35]
          simp only [gt_nil, true_and, eq_self, gt_iconst, gt_iret, gt_retz, bkX11_told_35, ka0_0, ra0_0_0, ka0_1, la0_1]
          obtain rfl := gw_inj1 h
          exact ⟨hcc, hss, hq⟩
def F_X11_folded (n0 : Nat) (a0 : Nat) (v1 : Int32) (μ : gw_M) : Option (Int32) := (F_X11_isIn n0 v1 0 ((μ (a0 + 1) 23) - (1 : Int32)) μ).bind (fun (r_1 : Int32) => (if r_1 = 0 then some (-1) else (if 0 ≤ ((786 : Int32) + v1) ∧ ((786 : Int32) + v1).toNatClampNeg < 20813 then some (μ (a0 + 1) ((786 : Int32) + v1).toNatClampNeg) else none)))
theorem ok_X11_folded {l : Launch} {x : gw_C} {d : Nat} {S : gw_S} {Q : Option Value → gw_S → gw_M → Prop} {v1 : Int32} {a0 : Nat} {n0 : Nat} {μ : gw_M} {r} (hS0 : gw_sh S 11 a0) (h : F_X11_folded n0 a0 v1 μ = some r) (hq : Q (some (.int r)) S μ) : gw_ok l x (d + 2) sgX11_folded 0 0 [.ref a0, .int v1] S μ Q := by
  refine gw_ok_of stX11_folded (lv0 := [.ref a0, .int v1]) (Nat.le_of_ble_eq_true rfl) rfl rfl ?_
  intro K hK
  have hcc : 0 ≤ 0 := Nat.zero_le _
  have hss : 0 ≤ 0 := Nat.zero_le _
  have ka0_0 : gw_kd S a0 = 11 := (hS0 0 _ rfl).1
  have ra0_0_0 : gw_rf S a0 0 = a0 + 1 := (hS0 0 _ rfl).2.2 (0, 1) (by decide)
  have ka0_1 : gw_kd S (a0 + 1) = 12 := (hS0 1 _ rfl).1
  have la0_1 : gw_ln S (a0 + 1) = 20813 := (hS0 1 _ rfl).2.1
  unfold F_X11_folded at h
  refine hK _ _ _ _ _ _ _ ?_
  rw [fdX11_folded_0]
  simp only [gt_nil, true_and, eq_self, gt_iload_n, gt_ink, gw_nth, gt_iconst, gt_aload_n, gt_rfk, gt_get_r, gt_get_i, gt_get_z, gt_bipush, gt_iaload, gt_isub, gt_s1_0, gt_s2_0, gt_s3_0, gt_s4_0, gt_s1_1, gt_s2_1, gt_s3_1, gt_s4_1, gt_acpy, gt_if, gt_sipush, gt_iadd, gt_goto, bkX11_folded_0, ka0_0, ra0_0_0, ka0_1, la0_1, (show Int32.toNatClampNeg 23 = 23 from rfl)]
  refine ⟨(⟨by decide, by decide⟩ : gw_in 23 20813), ?_⟩
  obtain ⟨r_1, e_3, h⟩ := gw_bnd h
  refine ⟨rfl, 0, 0, hcc, hss, ok_X11_isIn e_3 ?_⟩
  intro hbr_1
  simp only [gt_nil, true_and, eq_self, gt_if, gt_aload_n, gt_rfk, gw_nth, gt_get_r, gt_get_i, gt_get_z, gt_sipush, gt_iload_n, gt_ink, gt_iadd, gt_iaload, gt_goto, Option.toList, List.cons_append, List.nil_append, Nat.add_zero, ka0_0, ra0_0_0, ka0_1, la0_1, (show Int32.toNatClampNeg 23 = 23 from rfl)]
  refine ⟨fun c_5 => ?_, fun c_5 => ?_⟩
  · replace h := gw_ifp h c_5
    refine hK _ _ _ _ _ _ _ ?_
    rw [fdX11_folded_30]
    simp only [gt_nil, true_and, eq_self, gt_iconst, bkX11_folded_30, ka0_0, ra0_0_0, ka0_1, la0_1, (show Int32.toNatClampNeg 23 = 23 from rfl)]
    refine hK _ _ _ _ _ _ _ ?_
    rw [fdX11_folded_31]
    simp only [gt_nil, true_and, eq_self, gt_iret, gt_retz, bkX11_folded_31, ka0_0, ra0_0_0, ka0_1, la0_1, (show Int32.toNatClampNeg 23 = 23 from rfl)]
    obtain rfl := gw_inj1 h
    exact ⟨hcc, hss, hq⟩
  · replace h := gw_ifn h c_5
    obtain ⟨c_6, h⟩ := gw_ife h
    refine ⟨c_6, ?_⟩
    refine hK _ _ _ _ _ _ _ ?_
    rw [fdX11_folded_31]
    simp only [gt_nil, true_and, eq_self, gt_iret, gt_retz, bkX11_folded_31, ka0_0, ra0_0_0, ka0_1, la0_1, (show Int32.toNatClampNeg 23 = 23 from rfl)]
    obtain rfl := gw_inj1 h
    exact ⟨hcc, hss, hq⟩
def F_X11_frame (n0 : Nat) (a0 : Nat) (v1 : Int32) (μ : gw_M) : Option (Int32) := (F_X11_isIn n0 v1 0 9 μ).bind (fun (r_1 : Int32) => (if r_1 = 0 then some (-1) else (if 0 ≤ ((802 : Int32) + v1) ∧ ((802 : Int32) + v1).toNatClampNeg < 20813 then some (μ (a0 + 1) ((802 : Int32) + v1).toNatClampNeg) else none)))
theorem ok_X11_frame {l : Launch} {x : gw_C} {d : Nat} {S : gw_S} {Q : Option Value → gw_S → gw_M → Prop} {v1 : Int32} {a0 : Nat} {n0 : Nat} {μ : gw_M} {r} (hS0 : gw_sh S 11 a0) (h : F_X11_frame n0 a0 v1 μ = some r) (hq : Q (some (.int r)) S μ) : gw_ok l x (d + 2) sgX11_frame 0 0 [.ref a0, .int v1] S μ Q := by
  refine gw_ok_of stX11_frame (lv0 := [.ref a0, .int v1]) (Nat.le_of_ble_eq_true rfl) rfl rfl ?_
  intro K hK
  have hcc : 0 ≤ 0 := Nat.zero_le _
  have hss : 0 ≤ 0 := Nat.zero_le _
  have ka0_0 : gw_kd S a0 = 11 := (hS0 0 _ rfl).1
  have ra0_0_0 : gw_rf S a0 0 = a0 + 1 := (hS0 0 _ rfl).2.2 (0, 1) (by decide)
  have ka0_1 : gw_kd S (a0 + 1) = 12 := (hS0 1 _ rfl).1
  have la0_1 : gw_ln S (a0 + 1) = 20813 := (hS0 1 _ rfl).2.1
  unfold F_X11_frame at h
  refine hK _ _ _ _ _ _ _ ?_
  rw [fdX11_frame_0]
  simp only [gt_nil, true_and, eq_self, gt_iload_n, gt_ink, gw_nth, gt_iconst, gt_bipush, gt_s1_0, gt_s2_0, gt_s3_0, gt_s4_0, gt_s1_1, gt_s2_1, gt_s3_1, gt_s4_1, gt_acpy, gt_if, gt_aload_n, gt_rfk, gt_get_r, gt_get_i, gt_get_z, gt_sipush, gt_iadd, gt_iaload, gt_goto, bkX11_frame_0, ka0_0, ra0_0_0, ka0_1, la0_1]
  obtain ⟨r_1, e_3, h⟩ := gw_bnd h
  refine ⟨rfl, 0, 0, hcc, hss, ok_X11_isIn e_3 ?_⟩
  intro hbr_1
  simp only [gt_nil, true_and, eq_self, gt_if, gt_aload_n, gt_rfk, gw_nth, gt_get_r, gt_get_i, gt_get_z, gt_sipush, gt_iload_n, gt_ink, gt_iadd, gt_iaload, gt_goto, Option.toList, List.cons_append, List.nil_append, Nat.add_zero, ka0_0, ra0_0_0, ka0_1, la0_1]
  refine ⟨fun c_5 => ?_, fun c_5 => ?_⟩
  · replace h := gw_ifp h c_5
    refine hK _ _ _ _ _ _ _ ?_
    rw [fdX11_frame_23]
    simp only [gt_nil, true_and, eq_self, gt_iconst, bkX11_frame_23, ka0_0, ra0_0_0, ka0_1, la0_1]
    refine hK _ _ _ _ _ _ _ ?_
    rw [fdX11_frame_24]
    simp only [gt_nil, true_and, eq_self, gt_iret, gt_retz, bkX11_frame_24, ka0_0, ra0_0_0, ka0_1, la0_1]
    obtain rfl := gw_inj1 h
    exact ⟨hcc, hss, hq⟩
  · replace h := gw_ifn h c_5
    obtain ⟨c_6, h⟩ := gw_ife h
    refine ⟨c_6, ?_⟩
    refine hK _ _ _ _ _ _ _ ?_
    rw [fdX11_frame_24]
    simp only [gt_nil, true_and, eq_self, gt_iret, gt_retz, bkX11_frame_24, ka0_0, ra0_0_0, ka0_1, la0_1]
    obtain rfl := gw_inj1 h
    exact ⟨hcc, hss, hq⟩
def F_X11_handled (n0 : Nat) (a0 : Nat) (v1 : Int32) (μ : gw_M) : Option (Int32) := (F_X11_isHandled n0 v1 μ).bind (fun (r_1 : Int32) => (if r_1 = 0 then some (-1) else (if 0 ≤ ((828 : Int32) + v1) ∧ ((828 : Int32) + v1).toNatClampNeg < 20813 then some (μ (a0 + 1) ((828 : Int32) + v1).toNatClampNeg) else none)))
theorem ok_X11_handled {l : Launch} {x : gw_C} {d : Nat} {S : gw_S} {Q : Option Value → gw_S → gw_M → Prop} {v1 : Int32} {a0 : Nat} {n0 : Nat} {μ : gw_M} {r} (hS0 : gw_sh S 11 a0) (h : F_X11_handled n0 a0 v1 μ = some r) (hq : Q (some (.int r)) S μ) : gw_ok l x (d + 2) sgX11_handled 0 0 [.ref a0, .int v1] S μ Q := by
  refine gw_ok_of stX11_handled (lv0 := [.ref a0, .int v1]) (Nat.le_of_ble_eq_true rfl) rfl rfl ?_
  intro K hK
  have hcc : 0 ≤ 0 := Nat.zero_le _
  have hss : 0 ≤ 0 := Nat.zero_le _
  have ka0_0 : gw_kd S a0 = 11 := (hS0 0 _ rfl).1
  have ra0_0_0 : gw_rf S a0 0 = a0 + 1 := (hS0 0 _ rfl).2.2 (0, 1) (by decide)
  have ka0_1 : gw_kd S (a0 + 1) = 12 := (hS0 1 _ rfl).1
  have la0_1 : gw_ln S (a0 + 1) = 20813 := (hS0 1 _ rfl).2.1
  unfold F_X11_handled at h
  refine hK _ _ _ _ _ _ _ ?_
  rw [fdX11_handled_0]
  simp only [gt_nil, true_and, eq_self, gt_iload_n, gt_ink, gw_nth, gt_s1_0, gt_s2_0, gt_s3_0, gt_s4_0, gt_s1_1, gt_s2_1, gt_s3_1, gt_s4_1, gt_acpy, gt_if, gt_aload_n, gt_rfk, gt_get_r, gt_get_i, gt_get_z, gt_sipush, gt_iadd, gt_iaload, gt_goto, bkX11_handled_0, ka0_0, ra0_0_0, ka0_1, la0_1]
  obtain ⟨r_1, e_3, h⟩ := gw_bnd h
  refine ⟨rfl, 0, 0, hcc, hss, ok_X11_isHandled e_3 ?_⟩
  intro hbr_1
  simp only [gt_nil, true_and, eq_self, gt_if, gt_aload_n, gt_rfk, gw_nth, gt_get_r, gt_get_i, gt_get_z, gt_sipush, gt_iload_n, gt_ink, gt_iadd, gt_iaload, gt_goto, Option.toList, List.cons_append, List.nil_append, Nat.add_zero, ka0_0, ra0_0_0, ka0_1, la0_1]
  refine ⟨fun c_5 => ?_, fun c_5 => ?_⟩
  · replace h := gw_ifp h c_5
    refine hK _ _ _ _ _ _ _ ?_
    rw [fdX11_handled_20]
    simp only [gt_nil, true_and, eq_self, gt_iconst, bkX11_handled_20, ka0_0, ra0_0_0, ka0_1, la0_1]
    refine hK _ _ _ _ _ _ _ ?_
    rw [fdX11_handled_21]
    simp only [gt_nil, true_and, eq_self, gt_iret, gt_retz, bkX11_handled_21, ka0_0, ra0_0_0, ka0_1, la0_1]
    obtain rfl := gw_inj1 h
    exact ⟨hcc, hss, hq⟩
  · replace h := gw_ifn h c_5
    obtain ⟨c_6, h⟩ := gw_ife h
    refine ⟨c_6, ?_⟩
    refine hK _ _ _ _ _ _ _ ?_
    rw [fdX11_handled_21]
    simp only [gt_nil, true_and, eq_self, gt_iret, gt_retz, bkX11_handled_21, ka0_0, ra0_0_0, ka0_1, la0_1]
    obtain rfl := gw_inj1 h
    exact ⟨hcc, hss, hq⟩
def F_X11_stored (n0 : Nat) (a0 : Nat) (v1 : Int32) (μ : gw_M) : Option (Int32) := (F_X11_isPage n0 v1 μ).bind (fun (r_1 : Int32) => (if r_1 = 0 then some (-1) else (if 0 ≤ ((812 : Int32) + v1) ∧ ((812 : Int32) + v1).toNatClampNeg < 20813 then some (μ (a0 + 1) ((812 : Int32) + v1).toNatClampNeg) else none)))
theorem ok_X11_stored {l : Launch} {x : gw_C} {d : Nat} {S : gw_S} {Q : Option Value → gw_S → gw_M → Prop} {v1 : Int32} {a0 : Nat} {n0 : Nat} {μ : gw_M} {r} (hS0 : gw_sh S 11 a0) (h : F_X11_stored n0 a0 v1 μ = some r) (hq : Q (some (.int r)) S μ) : gw_ok l x (d + 3) sgX11_stored 0 0 [.ref a0, .int v1] S μ Q := by
  refine gw_ok_of stX11_stored (lv0 := [.ref a0, .int v1]) (Nat.le_of_ble_eq_true rfl) rfl rfl ?_
  intro K hK
  have hcc : 0 ≤ 0 := Nat.zero_le _
  have hss : 0 ≤ 0 := Nat.zero_le _
  have ka0_0 : gw_kd S a0 = 11 := (hS0 0 _ rfl).1
  have ra0_0_0 : gw_rf S a0 0 = a0 + 1 := (hS0 0 _ rfl).2.2 (0, 1) (by decide)
  have ka0_1 : gw_kd S (a0 + 1) = 12 := (hS0 1 _ rfl).1
  have la0_1 : gw_ln S (a0 + 1) = 20813 := (hS0 1 _ rfl).2.1
  unfold F_X11_stored at h
  refine hK _ _ _ _ _ _ _ ?_
  rw [fdX11_stored_0]
  simp only [gt_nil, true_and, eq_self, gt_iload_n, gt_ink, gw_nth, gt_s1_0, gt_s2_0, gt_s3_0, gt_s4_0, gt_s1_1, gt_s2_1, gt_s3_1, gt_s4_1, gt_acpy, gt_if, gt_aload_n, gt_rfk, gt_get_r, gt_get_i, gt_get_z, gt_sipush, gt_iadd, gt_iaload, gt_goto, bkX11_stored_0, ka0_0, ra0_0_0, ka0_1, la0_1]
  obtain ⟨r_1, e_3, h⟩ := gw_bnd h
  refine ⟨rfl, 0, 0, hcc, hss, ok_X11_isPage e_3 ?_⟩
  intro hbr_1
  simp only [gt_nil, true_and, eq_self, gt_if, gt_aload_n, gt_rfk, gw_nth, gt_get_r, gt_get_i, gt_get_z, gt_sipush, gt_iload_n, gt_ink, gt_iadd, gt_iaload, gt_goto, Option.toList, List.cons_append, List.nil_append, Nat.add_zero, ka0_0, ra0_0_0, ka0_1, la0_1]
  refine ⟨fun c_5 => ?_, fun c_5 => ?_⟩
  · replace h := gw_ifp h c_5
    refine hK _ _ _ _ _ _ _ ?_
    rw [fdX11_stored_20]
    simp only [gt_nil, true_and, eq_self, gt_iconst, bkX11_stored_20, ka0_0, ra0_0_0, ka0_1, la0_1]
    refine hK _ _ _ _ _ _ _ ?_
    rw [fdX11_stored_21]
    simp only [gt_nil, true_and, eq_self, gt_iret, gt_retz, bkX11_stored_21, ka0_0, ra0_0_0, ka0_1, la0_1]
    obtain rfl := gw_inj1 h
    exact ⟨hcc, hss, hq⟩
  · replace h := gw_ifn h c_5
    obtain ⟨c_6, h⟩ := gw_ife h
    refine ⟨c_6, ?_⟩
    refine hK _ _ _ _ _ _ _ ?_
    rw [fdX11_stored_21]
    simp only [gt_nil, true_and, eq_self, gt_iret, gt_retz, bkX11_stored_21, ka0_0, ra0_0_0, ka0_1, la0_1]
    obtain rfl := gw_inj1 h
    exact ⟨hcc, hss, hq⟩
def F_X11_backed (n0 : Nat) (a0 : Nat) (v1 : Int32) (μ : gw_M) : Option (Int32) := (F_X11_isIn n0 v1 0 ((μ (a0 + 1) 22) - (1 : Int32)) μ).bind (fun (r_1 : Int32) => (if r_1 = 0 then some (-1) else (if 0 ≤ ((738 : Int32) + v1) ∧ ((738 : Int32) + v1).toNatClampNeg < 20813 then some (μ (a0 + 1) ((738 : Int32) + v1).toNatClampNeg) else none)))
theorem ok_X11_backed {l : Launch} {x : gw_C} {d : Nat} {S : gw_S} {Q : Option Value → gw_S → gw_M → Prop} {v1 : Int32} {a0 : Nat} {n0 : Nat} {μ : gw_M} {r} (hS0 : gw_sh S 11 a0) (h : F_X11_backed n0 a0 v1 μ = some r) (hq : Q (some (.int r)) S μ) : gw_ok l x (d + 2) sgX11_backed 0 0 [.ref a0, .int v1] S μ Q := by
  refine gw_ok_of stX11_backed (lv0 := [.ref a0, .int v1]) (Nat.le_of_ble_eq_true rfl) rfl rfl ?_
  intro K hK
  have hcc : 0 ≤ 0 := Nat.zero_le _
  have hss : 0 ≤ 0 := Nat.zero_le _
  have ka0_0 : gw_kd S a0 = 11 := (hS0 0 _ rfl).1
  have ra0_0_0 : gw_rf S a0 0 = a0 + 1 := (hS0 0 _ rfl).2.2 (0, 1) (by decide)
  have ka0_1 : gw_kd S (a0 + 1) = 12 := (hS0 1 _ rfl).1
  have la0_1 : gw_ln S (a0 + 1) = 20813 := (hS0 1 _ rfl).2.1
  unfold F_X11_backed at h
  refine hK _ _ _ _ _ _ _ ?_
  rw [fdX11_backed_0]
  simp only [gt_nil, true_and, eq_self, gt_iload_n, gt_ink, gw_nth, gt_iconst, gt_aload_n, gt_rfk, gt_get_r, gt_get_i, gt_get_z, gt_bipush, gt_iaload, gt_isub, gt_s1_0, gt_s2_0, gt_s3_0, gt_s4_0, gt_s1_1, gt_s2_1, gt_s3_1, gt_s4_1, gt_acpy, gt_if, gt_sipush, gt_iadd, gt_goto, bkX11_backed_0, ka0_0, ra0_0_0, ka0_1, la0_1, (show Int32.toNatClampNeg 22 = 22 from rfl)]
  refine ⟨(⟨by decide, by decide⟩ : gw_in 22 20813), ?_⟩
  obtain ⟨r_1, e_3, h⟩ := gw_bnd h
  refine ⟨rfl, 0, 0, hcc, hss, ok_X11_isIn e_3 ?_⟩
  intro hbr_1
  simp only [gt_nil, true_and, eq_self, gt_if, gt_aload_n, gt_rfk, gw_nth, gt_get_r, gt_get_i, gt_get_z, gt_sipush, gt_iload_n, gt_ink, gt_iadd, gt_iaload, gt_goto, Option.toList, List.cons_append, List.nil_append, Nat.add_zero, ka0_0, ra0_0_0, ka0_1, la0_1, (show Int32.toNatClampNeg 22 = 22 from rfl)]
  refine ⟨fun c_5 => ?_, fun c_5 => ?_⟩
  · replace h := gw_ifp h c_5
    refine hK _ _ _ _ _ _ _ ?_
    rw [fdX11_backed_30]
    simp only [gt_nil, true_and, eq_self, gt_iconst, bkX11_backed_30, ka0_0, ra0_0_0, ka0_1, la0_1, (show Int32.toNatClampNeg 22 = 22 from rfl)]
    refine hK _ _ _ _ _ _ _ ?_
    rw [fdX11_backed_31]
    simp only [gt_nil, true_and, eq_self, gt_iret, gt_retz, bkX11_backed_31, ka0_0, ra0_0_0, ka0_1, la0_1, (show Int32.toNatClampNeg 22 = 22 from rfl)]
    obtain rfl := gw_inj1 h
    exact ⟨hcc, hss, hq⟩
  · replace h := gw_ifn h c_5
    obtain ⟨c_6, h⟩ := gw_ife h
    refine ⟨c_6, ?_⟩
    refine hK _ _ _ _ _ _ _ ?_
    rw [fdX11_backed_31]
    simp only [gt_nil, true_and, eq_self, gt_iret, gt_retz, bkX11_backed_31, ka0_0, ra0_0_0, ka0_1, la0_1, (show Int32.toNatClampNeg 22 = 22 from rfl)]
    obtain rfl := gw_inj1 h
    exact ⟨hcc, hss, hq⟩
def F_X11_heard (n0 : Nat) (a0 : Nat) (v1 : Int32) (μ : gw_M) : Option (Int32) := (if ¬ v1 = (-1) then (F_X11_isIn n0 v1 0 ((μ (a0 + 1) 24) - (1 : Int32)) μ).bind (fun (r_2 : Int32) => (if r_2 = 0 then some (-1) else (if 0 ≤ ((837 : Int32) + v1) ∧ ((837 : Int32) + v1).toNatClampNeg < 20813 then some (μ (a0 + 1) ((837 : Int32) + v1).toNatClampNeg) else none))) else some (μ (a0 + 1) 24))
theorem ok_X11_heard {l : Launch} {x : gw_C} {d : Nat} {S : gw_S} {Q : Option Value → gw_S → gw_M → Prop} {v1 : Int32} {a0 : Nat} {n0 : Nat} {μ : gw_M} {r} (hS0 : gw_sh S 11 a0) (h : F_X11_heard n0 a0 v1 μ = some r) (hq : Q (some (.int r)) S μ) : gw_ok l x (d + 2) sgX11_heard 0 0 [.ref a0, .int v1] S μ Q := by
  refine gw_ok_of stX11_heard (lv0 := [.ref a0, .int v1]) (Nat.le_of_ble_eq_true rfl) rfl rfl ?_
  intro K hK
  have hcc : 0 ≤ 0 := Nat.zero_le _
  have hss : 0 ≤ 0 := Nat.zero_le _
  have ka0_0 : gw_kd S a0 = 11 := (hS0 0 _ rfl).1
  have ra0_0_0 : gw_rf S a0 0 = a0 + 1 := (hS0 0 _ rfl).2.2 (0, 1) (by decide)
  have ka0_1 : gw_kd S (a0 + 1) = 12 := (hS0 1 _ rfl).1
  have la0_1 : gw_ln S (a0 + 1) = 20813 := (hS0 1 _ rfl).2.1
  unfold F_X11_heard at h
  refine hK _ _ _ _ _ _ _ ?_
  rw [fdX11_heard_0]
  simp only [gt_nil, true_and, eq_self, gt_iload_n, gt_ink, gw_nth, gt_iconst, gt_icmp, gt_aload_n, gt_rfk, gt_get_r, gt_get_i, gt_get_z, gt_bipush, gt_iaload, gt_goto, bkX11_heard_0, ka0_0, ra0_0_0, ka0_1, la0_1, (show Int32.toNatClampNeg 24 = 24 from rfl)]
  refine ⟨fun c_1 => ?_, fun c_1 => ?_⟩
  · replace h := gw_ifp2 (gw_c2_ne _ _) h c_1
    refine hK _ _ _ _ _ _ _ ?_
    rw [fdX11_heard_15]
    simp only [gt_nil, true_and, eq_self, gt_iload_n, gt_ink, gw_nth, gt_iconst, gt_aload_n, gt_rfk, gt_get_r, gt_get_i, gt_get_z, gt_bipush, gt_iaload, gt_isub, gt_s1_0, gt_s2_0, gt_s3_0, gt_s4_0, gt_s1_1, gt_s2_1, gt_s3_1, gt_s4_1, gt_acpy, gt_if, gt_sipush, gt_iadd, gt_goto, bkX11_heard_15, ka0_0, ra0_0_0, ka0_1, la0_1, (show Int32.toNatClampNeg 24 = 24 from rfl)]
    refine ⟨(⟨by decide, by decide⟩ : gw_in 24 20813), ?_⟩
    obtain ⟨r_2, e_4, h⟩ := gw_bnd h
    refine ⟨rfl, 0, 0, hcc, hss, ok_X11_isIn e_4 ?_⟩
    intro hbr_2
    simp only [gt_nil, true_and, eq_self, gt_if, gt_aload_n, gt_rfk, gw_nth, gt_get_r, gt_get_i, gt_get_z, gt_sipush, gt_iload_n, gt_ink, gt_iadd, gt_iaload, gt_goto, Option.toList, List.cons_append, List.nil_append, Nat.add_zero, ka0_0, ra0_0_0, ka0_1, la0_1, (show Int32.toNatClampNeg 24 = 24 from rfl)]
    refine ⟨fun c_6 => ?_, fun c_6 => ?_⟩
    · replace h := gw_ifp h c_6
      refine hK _ _ _ _ _ _ _ ?_
      rw [fdX11_heard_45]
      simp only [gt_nil, true_and, eq_self, gt_iconst, bkX11_heard_45, ka0_0, ra0_0_0, ka0_1, la0_1, (show Int32.toNatClampNeg 24 = 24 from rfl)]
      refine hK _ _ _ _ _ _ _ ?_
      rw [fdX11_heard_46]
      simp only [gt_nil, true_and, eq_self, gt_iret, gt_retz, bkX11_heard_46, ka0_0, ra0_0_0, ka0_1, la0_1, (show Int32.toNatClampNeg 24 = 24 from rfl)]
      obtain rfl := gw_inj1 h
      exact ⟨hcc, hss, hq⟩
    · replace h := gw_ifn h c_6
      obtain ⟨c_7, h⟩ := gw_ife h
      refine ⟨c_7, ?_⟩
      refine hK _ _ _ _ _ _ _ ?_
      rw [fdX11_heard_46]
      simp only [gt_nil, true_and, eq_self, gt_iret, gt_retz, bkX11_heard_46, ka0_0, ra0_0_0, ka0_1, la0_1, (show Int32.toNatClampNeg 24 = 24 from rfl)]
      obtain rfl := gw_inj1 h
      exact ⟨hcc, hss, hq⟩
  · replace h := gw_ifn2 (gw_c2_ne _ _) h c_1
    refine ⟨(⟨by decide, by decide⟩ : gw_in 24 20813), ?_⟩
    refine hK _ _ _ _ _ _ _ ?_
    rw [fdX11_heard_46]
    simp only [gt_nil, true_and, eq_self, gt_iret, gt_retz, bkX11_heard_46, ka0_0, ra0_0_0, ka0_1, la0_1, (show Int32.toNatClampNeg 24 = 24 from rfl)]
    obtain rfl := gw_inj1 h
    exact ⟨hcc, hss, hq⟩
def F_X11_changed (n0 : Nat) (a0 : Nat) (μ : gw_M) : Option (Int32) := some (μ (a0 + 1) 21)
theorem ok_X11_changed {l : Launch} {x : gw_C} {d : Nat} {S : gw_S} {Q : Option Value → gw_S → gw_M → Prop} {a0 : Nat} {n0 : Nat} {μ : gw_M} {r} (hS0 : gw_sh S 11 a0) (h : F_X11_changed n0 a0 μ = some r) (hq : Q (some (.int r)) S μ) : gw_ok l x (d + 1) sgX11_changed 0 0 [.ref a0] S μ Q := by
  refine gw_ok_of stX11_changed (lv0 := [.ref a0]) (Nat.le_of_ble_eq_true rfl) rfl rfl ?_
  intro K hK
  have hcc : 0 ≤ 0 := Nat.zero_le _
  have hss : 0 ≤ 0 := Nat.zero_le _
  have ka0_0 : gw_kd S a0 = 11 := (hS0 0 _ rfl).1
  have ra0_0_0 : gw_rf S a0 0 = a0 + 1 := (hS0 0 _ rfl).2.2 (0, 1) (by decide)
  have ka0_1 : gw_kd S (a0 + 1) = 12 := (hS0 1 _ rfl).1
  have la0_1 : gw_ln S (a0 + 1) = 20813 := (hS0 1 _ rfl).2.1
  unfold F_X11_changed at h
  refine hK _ _ _ _ _ _ _ ?_
  rw [fdX11_changed_0]
  simp only [gt_nil, true_and, eq_self, gt_aload_n, gt_rfk, gw_nth, gt_get_r, gt_get_i, gt_get_z, gt_bipush, gt_iaload, gt_iret, gt_retz, bkX11_changed_0, ka0_0, ra0_0_0, ka0_1, la0_1, (show Int32.toNatClampNeg 21 = 21 from rfl)]
  refine ⟨(⟨by decide, by decide⟩ : gw_in 21 20813), ?_⟩
  obtain rfl := gw_inj1 h
  exact ⟨hcc, hss, hq⟩
def F_X11_walk_23 (n0 : Nat) (a0 : Nat) : Nat → Int32 → Int32 → Int32 → gw_M → Option (Int32)
  | 0, _, _, _, _ => none
  | n + 1, v2, v3, v4, μ => (if 3 ≤ v4 then some v3 else (F_X11_gives n0 a0 v4 v3 v2 μ).bind (fun (r_2 : Int32) => (if ¬ r_2 = 0 then (F_X11_toOf n0 a0 v4 v3 μ).bind (fun (r_7 : Int32) => gw_let (v4 + 1) (fun (w_11 : Int32) => F_X11_walk_23 n0 a0 n v2 r_7 w_11 μ)) else some (((-2) : Int32) - v4))))
def F_X11_walk (n0 : Nat) (a0 : Nat) (v1 : Int32) (v2 : Int32) (μ : gw_M) : Option (Int32) := (F_X11_isPage n0 v1 μ).bind (fun (r_1 : Int32) => (if r_1 = 0 then some (-1) else (F_X11_isIn n0 v2 0 2 μ).bind (fun (r_6 : Int32) => (if ¬ r_6 = 0 then F_X11_walk_23 n0 a0 n0 v2 v1 0 μ else some (-1)))))
theorem B_X11_walk_23 {l : Launch} {x : gw_C} {d : Nat} {S : gw_S} {Q : Option Value → gw_S → gw_M → Prop} {K : Nat → gw_Kt} {mc ms cc ss : Nat} (hcc : cc ≤ mc) (hss : ss ≤ ms) (hK : gw_cl l x (d + 4) mc ms bsX11_walk Q K) {a0 : Nat} (hS0 : gw_sh S 11 a0) {n0 : Nat} : ∀ {n : Nat} {v2 v3 v4} {u1 : Value} {μ : gw_M} {r}, F_X11_walk_23 n0 a0 n v2 v3 v4 μ = some r → Q (some (.int r)) S μ → K 23 [.ref a0, u1, .int v2, .int v3, .int v4] [] S μ cc ss := by
  have ka0_0 : gw_kd S a0 = 11 := (hS0 0 _ rfl).1
  intro n
  induction n with
  | zero => intro v2 v3 v4 u1 μ r h hq; simp [F_X11_walk_23] at h
  | succ n ih =>
    intro v2 v3 v4 u1 μ r h hq
    simp only [F_X11_walk_23] at h
    refine hK _ _ _ _ _ _ _ ?_
    rw [fdX11_walk_23]
    simp only [gt_nil, true_and, eq_self, gt_iload, gt_ink, gw_nth, gt_iconst, gt_icmp, gt_aload_n, gt_rfk, gt_iload_n, gt_v0, gt_v1, gt_v2, gt_v3, gt_v4, gt_v5, gt_if, gt_bipush, gt_isub, gt_iret, gt_retz, bkX11_walk_23, ka0_0]
    refine ⟨fun c_1 => ?_, fun c_1 => ?_⟩
    · replace h := gw_ifp2 (gw_c2_ge _ _) h c_1
      refine hK _ _ _ _ _ _ _ ?_
      rw [fdX11_walk_60]
      simp only [gt_nil, true_and, eq_self, gt_iload_n, gt_ink, gw_nth, gt_iret, gt_retz, bkX11_walk_60, ka0_0]
      obtain rfl := gw_inj1 h
      exact ⟨hcc, hss, hq⟩
    · replace h := gw_ifn2 (gw_c2_ge _ _) h c_1
      obtain ⟨r_2, e_4, h⟩ := gw_bnd h
      refine ⟨rfl, 0, 0, hcc, hss, ok_X11_gives hS0 e_4 ?_⟩
      intro hbr_2
      simp only [gt_nil, true_and, eq_self, gt_if, gt_bipush, gt_iload, gt_ink, gw_nth, gt_isub, gt_iret, gt_retz, Option.toList, List.cons_append, List.nil_append, Nat.add_zero, ka0_0]
      refine ⟨fun c_6 => ?_, fun c_6 => ?_⟩
      · replace h := gw_ifp h c_6
        refine hK _ _ _ _ _ _ _ ?_
        rw [fdX11_walk_46]
        simp only [gt_nil, true_and, eq_self, gt_aload_n, gt_rfk, gw_nth, gt_iload, gt_ink, gt_iload_n, gt_v0, gt_v1, gt_v2, gt_v3, gt_v4, gt_v5, gt_istore_n, gw_set, gt_iinc, gt_goto, bkX11_walk_46, ka0_0]
        obtain ⟨r_7, e_9, h⟩ := gw_bnd h
        refine ⟨rfl, 0, 0, hcc, hss, ok_X11_toOf hS0 e_9 ?_⟩
        simp only [gt_nil, true_and, eq_self, gt_istore_n, gw_set, gt_iinc, gt_ink, gw_nth, gt_goto, Option.toList, List.cons_append, List.nil_append, Nat.add_zero, ka0_0]
        obtain ⟨w_11, hw_11, h⟩ := gw_lt h
        try rw [← hw_11]
        exact ih h hq
      · replace h := gw_ifn h c_6
        obtain rfl := gw_inj1 h
        exact ⟨hcc, hss, hq⟩
theorem ok_X11_walk {l : Launch} {x : gw_C} {d : Nat} {S : gw_S} {Q : Option Value → gw_S → gw_M → Prop} {v1 v2 : Int32} {a0 : Nat} {n0 : Nat} {μ : gw_M} {r} (hS0 : gw_sh S 11 a0) (h : F_X11_walk n0 a0 v1 v2 μ = some r) (hq : Q (some (.int r)) S μ) : gw_ok l x (d + 5) sgX11_walk 0 0 [.ref a0, .int v1, .int v2] S μ Q := by
  refine gw_ok_of stX11_walk (lv0 := [.ref a0, .int v1, .int v2, .retAddr 0, .retAddr 0]) (Nat.le_of_ble_eq_true rfl) rfl rfl ?_
  intro K hK
  have hcc : 0 ≤ 0 := Nat.zero_le _
  have hss : 0 ≤ 0 := Nat.zero_le _
  unfold F_X11_walk at h
  refine hK _ _ _ _ _ _ _ ?_
  rw [fdX11_walk_0]
  simp only [gt_nil, true_and, eq_self, gt_iload_n, gt_ink, gw_nth, gt_s1_0, gt_s2_0, gt_s3_0, gt_s4_0, gt_s1_1, gt_s2_1, gt_s3_1, gt_s4_1, gt_acpy, gt_if, gt_iconst, bkX11_walk_0]
  obtain ⟨r_1, e_3, h⟩ := gw_bnd h
  refine ⟨rfl, 0, 0, hcc, hss, ok_X11_isPage e_3 ?_⟩
  intro hbr_1
  simp only [gt_nil, true_and, eq_self, gt_if, gt_iload_n, gt_ink, gw_nth, gt_iconst, gt_s1_0, gt_s2_0, gt_s3_0, gt_s4_0, gt_s1_1, gt_s2_1, gt_s3_1, gt_s4_1, gt_acpy, Option.toList, List.cons_append, List.nil_append, Nat.add_zero]
  refine ⟨fun c_5 => ?_, fun c_5 => ?_⟩
  · replace h := gw_ifp h c_5
    refine hK _ _ _ _ _ _ _ ?_
    rw [fdX11_walk_16]
    simp only [gt_nil, true_and, eq_self, gt_iconst, gt_iret, gt_retz, bkX11_walk_16]
    obtain rfl := gw_inj1 h
    exact ⟨hcc, hss, hq⟩
  · replace h := gw_ifn h c_5
    obtain ⟨r_6, e_8, h⟩ := gw_bnd h
    refine ⟨rfl, 0, 0, hcc, hss, ok_X11_isIn e_8 ?_⟩
    intro hbr_6
    simp only [gt_nil, true_and, eq_self, gt_if, Option.toList, List.cons_append, List.nil_append, Nat.add_zero]
    refine ⟨fun c_10 => ?_, fun c_10 => ?_⟩
    · replace h := gw_ifp h c_10
      refine hK _ _ _ _ _ _ _ ?_
      rw [fdX11_walk_18]
      simp only [gt_nil, true_and, eq_self, gt_iload_n, gt_ink, gw_nth, gt_istore_n, gw_set, gt_iconst, gt_istore, bkX11_walk_18]
      exact B_X11_walk_23 hcc hss hK hS0 h hq
    · replace h := gw_ifn h c_10
      refine hK _ _ _ _ _ _ _ ?_
      rw [fdX11_walk_16]
      simp only [gt_nil, true_and, eq_self, gt_iconst, gt_iret, gt_retz, bkX11_walk_16]
      obtain rfl := gw_inj1 h
      exact ⟨hcc, hss, hq⟩
def F_X11_given_52 (n0 : Nat) (a0 : Nat) (v2 : Int32) (v3 : Int32) (μ : gw_M) : Option (Int32) := (if ¬ v2 = (-1) then some v3 else some 0)
def F_X11_given_17 (n0 : Nat) (a0 : Nat) : Nat → Int32 → Int32 → Int32 → gw_M → Option (Int32)
  | 0, _, _, _, _ => none
  | n + 1, v2, v3, v4, μ => (if 3 ≤ v4 then F_X11_given_52 n0 a0 v2 v3 μ else (if v2 = (-1) then F_X11_given_52 n0 a0 v2 v3 μ else (F_X11_rightsOf n0 a0 v4 v2 μ).bind (fun (r_3 : Int32) => gw_let ((v3 &&& r_3)) (fun (w_7 : Int32) => (F_X11_toOf n0 a0 v4 v2 μ).bind (fun (r_8 : Int32) => gw_let (v4 + 1) (fun (w_12 : Int32) => F_X11_given_17 n0 a0 n r_8 w_7 w_12 μ))))))
def F_X11_given (n0 : Nat) (a0 : Nat) (v1 : Int32) (μ : gw_M) : Option (Int32) := (F_X11_isPage n0 v1 μ).bind (fun (r_1 : Int32) => (if ¬ r_1 = 0 then F_X11_given_17 n0 a0 n0 v1 7 0 μ else some (-1)))
theorem B_X11_given_52 {l : Launch} {x : gw_C} {d : Nat} {S : gw_S} {Q : Option Value → gw_S → gw_M → Prop} {K : Nat → gw_Kt} {mc ms cc ss : Nat} (hcc : cc ≤ mc) (hss : ss ≤ ms) (hK : gw_cl l x (d + 3) mc ms bsX11_given Q K) {a0 : Nat} (hS0 : gw_sh S 11 a0) {n0 : Nat} {v2 v3} {u1 u4 : Value} {μ : gw_M} {r} (h : F_X11_given_52 n0 a0 v2 v3 μ = some r) (hq : Q (some (.int r)) S μ) : K 52 [.ref a0, u1, .int v2, .int v3, u4] [] S μ cc ss := by
  unfold F_X11_given_52 at h
  refine hK _ _ _ _ _ _ _ ?_
  rw [fdX11_given_52]
  simp only [gt_nil, true_and, eq_self, gt_iload_n, gt_ink, gw_nth, gt_iconst, gt_icmp, gt_goto, bkX11_given_52]
  refine ⟨fun c_1 => ?_, fun c_1 => ?_⟩
  · replace h := gw_ifp2 (gw_c2_ne _ _) h c_1
    refine hK _ _ _ _ _ _ _ ?_
    rw [fdX11_given_61]
    simp only [gt_nil, true_and, eq_self, gt_iload_n, gt_ink, gw_nth, bkX11_given_61]
    refine hK _ _ _ _ _ _ _ ?_
    rw [fdX11_given_62]
    simp only [gt_nil, true_and, eq_self, gt_iret, gt_retz, bkX11_given_62]
    obtain rfl := gw_inj1 h
    exact ⟨hcc, hss, hq⟩
  · replace h := gw_ifn2 (gw_c2_ne _ _) h c_1
    refine hK _ _ _ _ _ _ _ ?_
    rw [fdX11_given_62]
    simp only [gt_nil, true_and, eq_self, gt_iret, gt_retz, bkX11_given_62]
    obtain rfl := gw_inj1 h
    exact ⟨hcc, hss, hq⟩
theorem B_X11_given_17 {l : Launch} {x : gw_C} {d : Nat} {S : gw_S} {Q : Option Value → gw_S → gw_M → Prop} {K : Nat → gw_Kt} {mc ms cc ss : Nat} (hcc : cc ≤ mc) (hss : ss ≤ ms) (hK : gw_cl l x (d + 3) mc ms bsX11_given Q K) {a0 : Nat} (hS0 : gw_sh S 11 a0) {n0 : Nat} : ∀ {n : Nat} {v2 v3 v4} {u1 : Value} {μ : gw_M} {r}, F_X11_given_17 n0 a0 n v2 v3 v4 μ = some r → Q (some (.int r)) S μ → K 17 [.ref a0, u1, .int v2, .int v3, .int v4] [] S μ cc ss := by
  have ka0_0 : gw_kd S a0 = 11 := (hS0 0 _ rfl).1
  intro n
  induction n with
  | zero => intro v2 v3 v4 u1 μ r h hq; simp [F_X11_given_17] at h
  | succ n ih =>
    intro v2 v3 v4 u1 μ r h hq
    simp only [F_X11_given_17] at h
    refine hK _ _ _ _ _ _ _ ?_
    rw [fdX11_given_17]
    simp only [gt_nil, true_and, eq_self, gt_iload, gt_ink, gw_nth, gt_iconst, gt_icmp, gt_iload_n, gt_aload_n, gt_rfk, gt_v0, gt_v1, gt_v2, gt_v3, gt_v4, gt_v5, gt_iand, gt_istore_n, gw_set, gt_iinc, gt_goto, bkX11_given_17, ka0_0]
    refine ⟨fun c_1 => ?_, fun c_1 => ?_⟩
    · replace h := gw_ifp2 (gw_c2_ge _ _) h c_1
      exact B_X11_given_52 hcc hss hK hS0 h hq
    · replace h := gw_ifn2 (gw_c2_ge _ _) h c_1
      refine ⟨fun c_2 => ?_, fun c_2 => ?_⟩
      · replace h := gw_ifp2 (gw_c2_eq _ _) h c_2
        exact B_X11_given_52 hcc hss hK hS0 h hq
      · replace h := gw_ifn2 (gw_c2_eq _ _) h c_2
        obtain ⟨r_3, e_5, h⟩ := gw_bnd h
        refine ⟨rfl, 0, 0, hcc, hss, ok_X11_rightsOf hS0 e_5 ?_⟩
        simp only [gt_nil, true_and, eq_self, gt_iand, gt_istore_n, gw_set, gt_aload_n, gt_rfk, gw_nth, gt_iload, gt_ink, gt_iload_n, gt_v0, gt_v1, gt_v2, gt_v3, gt_v4, gt_v5, gt_iinc, gt_goto, Option.toList, List.cons_append, List.nil_append, Nat.add_zero, ka0_0]
        obtain ⟨w_7, hw_7, h⟩ := gw_lt h
        try rw [← hw_7]
        obtain ⟨r_8, e_10, h⟩ := gw_bnd h
        refine ⟨rfl, 0, 0, hcc, hss, ok_X11_toOf hS0 e_10 ?_⟩
        simp only [gt_nil, true_and, eq_self, gt_istore_n, gw_set, gt_iinc, gt_ink, gw_nth, gt_goto, Option.toList, List.cons_append, List.nil_append, Nat.add_zero, ka0_0]
        obtain ⟨w_12, hw_12, h⟩ := gw_lt h
        try rw [← hw_12]
        exact ih h hq
theorem ok_X11_given {l : Launch} {x : gw_C} {d : Nat} {S : gw_S} {Q : Option Value → gw_S → gw_M → Prop} {v1 : Int32} {a0 : Nat} {n0 : Nat} {μ : gw_M} {r} (hS0 : gw_sh S 11 a0) (h : F_X11_given n0 a0 v1 μ = some r) (hq : Q (some (.int r)) S μ) : gw_ok l x (d + 4) sgX11_given 0 0 [.ref a0, .int v1] S μ Q := by
  refine gw_ok_of stX11_given (lv0 := [.ref a0, .int v1, .retAddr 0, .retAddr 0, .retAddr 0]) (Nat.le_of_ble_eq_true rfl) rfl rfl ?_
  intro K hK
  have hcc : 0 ≤ 0 := Nat.zero_le _
  have hss : 0 ≤ 0 := Nat.zero_le _
  unfold F_X11_given at h
  refine hK _ _ _ _ _ _ _ ?_
  rw [fdX11_given_0]
  simp only [gt_nil, true_and, eq_self, gt_iload_n, gt_ink, gw_nth, gt_s1_0, gt_s2_0, gt_s3_0, gt_s4_0, gt_s1_1, gt_s2_1, gt_s3_1, gt_s4_1, gt_acpy, gt_if, gt_iconst, gt_iret, gt_retz, bkX11_given_0]
  obtain ⟨r_1, e_3, h⟩ := gw_bnd h
  refine ⟨rfl, 0, 0, hcc, hss, ok_X11_isPage e_3 ?_⟩
  intro hbr_1
  simp only [gt_nil, true_and, eq_self, gt_if, gt_iconst, gt_iret, gt_retz, Option.toList, List.cons_append, List.nil_append, Nat.add_zero]
  refine ⟨fun c_5 => ?_, fun c_5 => ?_⟩
  · replace h := gw_ifp h c_5
    refine hK _ _ _ _ _ _ _ ?_
    rw [fdX11_given_9]
    simp only [gt_nil, true_and, eq_self, gt_iload_n, gt_ink, gw_nth, gt_istore_n, gw_set, gt_bipush, gt_iconst, gt_istore, bkX11_given_9]
    exact B_X11_given_17 hcc hss hK hS0 h hq
  · replace h := gw_ifn h c_5
    obtain rfl := gw_inj1 h
    exact ⟨hcc, hss, hq⟩
def F_X11_lazy_26 (rec4 : Int32 → Int32 → gw_M → Option (Int32)) (n0 : Nat) (a0 : Nat) (v2 : Int32) (s0 : Int32) (s1 : Int32) (μ : gw_M) : Option (Int32) := gw_let ((s0 ||| s1)) (fun (w_1 : Int32) => gw_let (v2 + 1) (fun (w_2 : Int32) => rec4 w_1 w_2 μ))
def F_X11_lazy_4 (n0 : Nat) (a0 : Nat) : Nat → Int32 → Int32 → gw_M → Option (Int32)
  | 0, _, _, _ => none
  | n + 1, v1, v2, μ => (if 16 ≤ v2 then some v1 else (F_X11_isLazy n0 a0 v2 μ).bind (fun (r_2 : Int32) => (if r_2 = 0 then F_X11_lazy_26 (F_X11_lazy_4 n0 a0 n) n0 a0 v2 v1 0 μ else F_X11_lazy_26 (F_X11_lazy_4 n0 a0 n) n0 a0 v2 v1 ((1 : Int32) <<< (v2 &&& 31)) μ)))
def F_X11_lazy (n0 : Nat) (a0 : Nat) (μ : gw_M) : Option (Int32) := F_X11_lazy_4 n0 a0 n0 0 0 μ
theorem B_X11_lazy_26 {l : Launch} {x : gw_C} {d : Nat} {S : gw_S} {Q : Option Value → gw_S → gw_M → Prop} {K : Nat → gw_Kt} {mc ms cc ss : Nat} (hcc : cc ≤ mc) (hss : ss ≤ ms) (hK : gw_cl l x (d + 4) mc ms bsX11_lazy Q K) {a0 : Nat} (hS0 : gw_sh S 11 a0) {rec4 : Int32 → Int32 → gw_M → Option (Int32)} (hrec4 : ∀ {v1 v2} {μ : gw_M} {r}, rec4 v1 v2 μ = some r → Q (some (.int r)) S μ → K 4 [.ref a0, .int v1, .int v2] [] S μ cc ss) {n0 : Nat} {v2 s0 s1} {u1 : Value} {μ : gw_M} {r} (h : F_X11_lazy_26 rec4 n0 a0 v2 s0 s1 μ = some r) (hq : Q (some (.int r)) S μ) : K 26 [.ref a0, u1, .int v2] [.int s1, .int s0] S μ cc ss := by
  unfold F_X11_lazy_26 at h
  refine hK _ _ _ _ _ _ _ ?_
  rw [fdX11_lazy_26]
  simp only [gt_nil, true_and, eq_self, gt_ior, gt_istore_n, gw_set, gt_iinc, gt_ink, gw_nth, gt_goto, bkX11_lazy_26]
  obtain ⟨w_1, hw_1, h⟩ := gw_lt h
  try rw [← hw_1]
  obtain ⟨w_2, hw_2, h⟩ := gw_lt h
  try rw [← hw_2]
  exact hrec4 h hq
theorem B_X11_lazy_4 {l : Launch} {x : gw_C} {d : Nat} {S : gw_S} {Q : Option Value → gw_S → gw_M → Prop} {K : Nat → gw_Kt} {mc ms cc ss : Nat} (hcc : cc ≤ mc) (hss : ss ≤ ms) (hK : gw_cl l x (d + 4) mc ms bsX11_lazy Q K) {a0 : Nat} (hS0 : gw_sh S 11 a0) {n0 : Nat} : ∀ {n : Nat} {v1 v2} {μ : gw_M} {r}, F_X11_lazy_4 n0 a0 n v1 v2 μ = some r → Q (some (.int r)) S μ → K 4 [.ref a0, .int v1, .int v2] [] S μ cc ss := by
  have ka0_0 : gw_kd S a0 = 11 := (hS0 0 _ rfl).1
  intro n
  induction n with
  | zero => intro v1 v2 μ r h hq; simp [F_X11_lazy_4] at h
  | succ n ih =>
    intro v1 v2 μ r h hq
    simp only [F_X11_lazy_4] at h
    refine hK _ _ _ _ _ _ _ ?_
    rw [fdX11_lazy_4]
    simp only [gt_nil, true_and, eq_self, gt_iload_n, gt_ink, gw_nth, gt_bipush, gt_icmp, gt_aload_n, gt_rfk, gt_v0, gt_v1, gt_v2, gt_v3, gt_v4, gt_v5, gt_if, gt_iconst, gt_ishl, gt_goto, bkX11_lazy_4, ka0_0]
    refine ⟨fun c_1 => ?_, fun c_1 => ?_⟩
    · replace h := gw_ifp2 (gw_c2_ge _ _) h c_1
      refine hK _ _ _ _ _ _ _ ?_
      rw [fdX11_lazy_34]
      simp only [gt_nil, true_and, eq_self, gt_iload_n, gt_ink, gw_nth, gt_iret, gt_retz, bkX11_lazy_34, ka0_0]
      obtain rfl := gw_inj1 h
      exact ⟨hcc, hss, hq⟩
    · replace h := gw_ifn2 (gw_c2_ge _ _) h c_1
      obtain ⟨r_2, e_4, h⟩ := gw_bnd h
      refine ⟨rfl, 0, 0, hcc, hss, ok_X11_isLazy hS0 e_4 ?_⟩
      intro hbr_2
      simp only [gt_nil, true_and, eq_self, gt_if, gt_iconst, gt_iload_n, gt_ink, gw_nth, gt_ishl, gt_goto, Option.toList, List.cons_append, List.nil_append, Nat.add_zero, ka0_0]
      refine ⟨fun c_6 => ?_, fun c_6 => ?_⟩
      · replace h := gw_ifp h c_6
        refine hK _ _ _ _ _ _ _ ?_
        rw [fdX11_lazy_25]
        simp only [gt_nil, true_and, eq_self, gt_iconst, bkX11_lazy_25, ka0_0]
        exact B_X11_lazy_26 hcc hss hK hS0 ih h hq
      · replace h := gw_ifn h c_6
        exact B_X11_lazy_26 hcc hss hK hS0 ih h hq
theorem ok_X11_lazy {l : Launch} {x : gw_C} {d : Nat} {S : gw_S} {Q : Option Value → gw_S → gw_M → Prop} {a0 : Nat} {n0 : Nat} {μ : gw_M} {r} (hS0 : gw_sh S 11 a0) (h : F_X11_lazy n0 a0 μ = some r) (hq : Q (some (.int r)) S μ) : gw_ok l x (d + 5) sgX11_lazy 0 0 [.ref a0] S μ Q := by
  refine gw_ok_of stX11_lazy (lv0 := [.ref a0, .retAddr 0, .retAddr 0]) (Nat.le_of_ble_eq_true rfl) rfl rfl ?_
  intro K hK
  have hcc : 0 ≤ 0 := Nat.zero_le _
  have hss : 0 ≤ 0 := Nat.zero_le _
  unfold F_X11_lazy at h
  refine hK _ _ _ _ _ _ _ ?_
  rw [fdX11_lazy_0]
  simp only [gt_nil, true_and, eq_self, gt_iconst, gt_istore_n, gw_set, bkX11_lazy_0]
  exact B_X11_lazy_4 hcc hss hK hS0 h hq
def F_X11_aliases_70 (rec16 : Int32 → Int32 → Int32 → gw_M → Option (Int32)) (n0 : Nat) (a0 : Nat) (v1 : Int32) (v3 : Int32) (s0 : Int32) (s1 : Int32) (μ : gw_M) : Option (Int32) := gw_let ((s0 ||| s1)) (fun (w_1 : Int32) => gw_let (v3 + 1) (fun (w_2 : Int32) => rec16 v1 w_1 w_2 μ))
def F_X11_aliases_56 (rec16 : Int32 → Int32 → Int32 → gw_M → Option (Int32)) (n0 : Nat) (a0 : Nat) (v1 : Int32) (v2 : Int32) (v3 : Int32) (v4 : Int32) (μ : gw_M) : Option (Int32) := (if ¬ v4 = v1 then F_X11_aliases_70 rec16 n0 a0 v1 v3 v2 0 μ else F_X11_aliases_70 rec16 n0 a0 v1 v3 v2 ((1 : Int32) <<< (v3 &&& 31)) μ)
def F_X11_aliases_28 (rec16 : Int32 → Int32 → Int32 → gw_M → Option (Int32)) (n0 : Nat) (a0 : Nat) : Nat → Int32 → Int32 → Int32 → Int32 → Int32 → gw_M → Option (Int32)
  | 0, _, _, _, _, _, _ => none
  | n + 1, v1, v2, v3, v4, v5, μ => (if 3 ≤ v5 then F_X11_aliases_56 rec16 n0 a0 v1 v2 v3 v4 μ else (if v4 = (-1) then F_X11_aliases_56 rec16 n0 a0 v1 v2 v3 v4 μ else (F_X11_toOf n0 a0 v5 v4 μ).bind (fun (r_3 : Int32) => gw_let (v5 + 1) (fun (w_7 : Int32) => F_X11_aliases_28 rec16 n0 a0 n v1 v2 v3 r_3 w_7 μ))))
def F_X11_aliases_16 (n0 : Nat) (a0 : Nat) : Nat → Int32 → Int32 → Int32 → gw_M → Option (Int32)
  | 0, _, _, _, _ => none
  | n + 1, v1, v2, v3, μ => (if 16 ≤ v3 then some v2 else F_X11_aliases_28 (F_X11_aliases_16 n0 a0 n) n0 a0 n0 v1 v2 v3 v3 0 μ)
def F_X11_aliases (n0 : Nat) (a0 : Nat) (v1 : Int32) (μ : gw_M) : Option (Int32) := (F_X11_isIn n0 v1 0 9 μ).bind (fun (r_1 : Int32) => (if ¬ r_1 = 0 then F_X11_aliases_16 n0 a0 n0 v1 0 0 μ else some (-1)))
theorem B_X11_aliases_70 {l : Launch} {x : gw_C} {d : Nat} {S : gw_S} {Q : Option Value → gw_S → gw_M → Prop} {K : Nat → gw_Kt} {mc ms cc ss : Nat} (hcc : cc ≤ mc) (hss : ss ≤ ms) (hK : gw_cl l x (d + 3) mc ms bsX11_aliases Q K) {a0 : Nat} (hS0 : gw_sh S 11 a0) {rec16 : Int32 → Int32 → Int32 → gw_M → Option (Int32)} (hrec16 : ∀ {v1 v2 v3} {u4 u5 : Value} {μ : gw_M} {r}, rec16 v1 v2 v3 μ = some r → Q (some (.int r)) S μ → K 16 [.ref a0, .int v1, .int v2, .int v3, u4, u5] [] S μ cc ss) {n0 : Nat} {v1 v3 s0 s1} {u2 u4 u5 : Value} {μ : gw_M} {r} (h : F_X11_aliases_70 rec16 n0 a0 v1 v3 s0 s1 μ = some r) (hq : Q (some (.int r)) S μ) : K 70 [.ref a0, .int v1, u2, .int v3, u4, u5] [.int s1, .int s0] S μ cc ss := by
  unfold F_X11_aliases_70 at h
  refine hK _ _ _ _ _ _ _ ?_
  rw [fdX11_aliases_70]
  simp only [gt_nil, true_and, eq_self, gt_ior, gt_istore_n, gw_set, gt_iinc, gt_ink, gw_nth, gt_goto, bkX11_aliases_70]
  obtain ⟨w_1, hw_1, h⟩ := gw_lt h
  try rw [← hw_1]
  obtain ⟨w_2, hw_2, h⟩ := gw_lt h
  try rw [← hw_2]
  exact hrec16 h hq
theorem B_X11_aliases_56 {l : Launch} {x : gw_C} {d : Nat} {S : gw_S} {Q : Option Value → gw_S → gw_M → Prop} {K : Nat → gw_Kt} {mc ms cc ss : Nat} (hcc : cc ≤ mc) (hss : ss ≤ ms) (hK : gw_cl l x (d + 3) mc ms bsX11_aliases Q K) {a0 : Nat} (hS0 : gw_sh S 11 a0) {rec16 : Int32 → Int32 → Int32 → gw_M → Option (Int32)} (hrec16 : ∀ {v1 v2 v3} {u4 u5 : Value} {μ : gw_M} {r}, rec16 v1 v2 v3 μ = some r → Q (some (.int r)) S μ → K 16 [.ref a0, .int v1, .int v2, .int v3, u4, u5] [] S μ cc ss) {n0 : Nat} {v1 v2 v3 v4} {u5 : Value} {μ : gw_M} {r} (h : F_X11_aliases_56 rec16 n0 a0 v1 v2 v3 v4 μ = some r) (hq : Q (some (.int r)) S μ) : K 56 [.ref a0, .int v1, .int v2, .int v3, .int v4, u5] [] S μ cc ss := by
  unfold F_X11_aliases_56 at h
  refine hK _ _ _ _ _ _ _ ?_
  rw [fdX11_aliases_56]
  simp only [gt_nil, true_and, eq_self, gt_iload_n, gt_ink, gw_nth, gt_iload, gt_icmp, gt_iconst, gt_ishl, gt_goto, bkX11_aliases_56]
  refine ⟨fun c_1 => ?_, fun c_1 => ?_⟩
  · replace h := gw_ifp2 (gw_c2_ne _ _) h c_1
    refine hK _ _ _ _ _ _ _ ?_
    rw [fdX11_aliases_69]
    simp only [gt_nil, true_and, eq_self, gt_iconst, bkX11_aliases_69]
    exact B_X11_aliases_70 hcc hss hK hS0 hrec16 h hq
  · replace h := gw_ifn2 (gw_c2_ne _ _) h c_1
    exact B_X11_aliases_70 hcc hss hK hS0 hrec16 h hq
theorem B_X11_aliases_28 {l : Launch} {x : gw_C} {d : Nat} {S : gw_S} {Q : Option Value → gw_S → gw_M → Prop} {K : Nat → gw_Kt} {mc ms cc ss : Nat} (hcc : cc ≤ mc) (hss : ss ≤ ms) (hK : gw_cl l x (d + 3) mc ms bsX11_aliases Q K) {a0 : Nat} (hS0 : gw_sh S 11 a0) {rec16 : Int32 → Int32 → Int32 → gw_M → Option (Int32)} (hrec16 : ∀ {v1 v2 v3} {u4 u5 : Value} {μ : gw_M} {r}, rec16 v1 v2 v3 μ = some r → Q (some (.int r)) S μ → K 16 [.ref a0, .int v1, .int v2, .int v3, u4, u5] [] S μ cc ss) {n0 : Nat} : ∀ {n : Nat} {v1 v2 v3 v4 v5} {μ : gw_M} {r}, F_X11_aliases_28 rec16 n0 a0 n v1 v2 v3 v4 v5 μ = some r → Q (some (.int r)) S μ → K 28 [.ref a0, .int v1, .int v2, .int v3, .int v4, .int v5] [] S μ cc ss := by
  have ka0_0 : gw_kd S a0 = 11 := (hS0 0 _ rfl).1
  intro n
  induction n with
  | zero => intro v1 v2 v3 v4 v5 μ r h hq; simp [F_X11_aliases_28] at h
  | succ n ih =>
    intro v1 v2 v3 v4 v5 μ r h hq
    simp only [F_X11_aliases_28] at h
    refine hK _ _ _ _ _ _ _ ?_
    rw [fdX11_aliases_28]
    simp only [gt_nil, true_and, eq_self, gt_iload, gt_ink, gw_nth, gt_iconst, gt_icmp, gt_aload_n, gt_rfk, gt_v0, gt_v1, gt_v2, gt_v3, gt_v4, gt_v5, gt_istore, gw_set, gt_iinc, gt_goto, bkX11_aliases_28, ka0_0]
    refine ⟨fun c_1 => ?_, fun c_1 => ?_⟩
    · replace h := gw_ifp2 (gw_c2_ge _ _) h c_1
      exact B_X11_aliases_56 hcc hss hK hS0 hrec16 h hq
    · replace h := gw_ifn2 (gw_c2_ge _ _) h c_1
      refine ⟨fun c_2 => ?_, fun c_2 => ?_⟩
      · replace h := gw_ifp2 (gw_c2_eq _ _) h c_2
        exact B_X11_aliases_56 hcc hss hK hS0 hrec16 h hq
      · replace h := gw_ifn2 (gw_c2_eq _ _) h c_2
        obtain ⟨r_3, e_5, h⟩ := gw_bnd h
        refine ⟨rfl, 0, 0, hcc, hss, ok_X11_toOf hS0 e_5 ?_⟩
        simp only [gt_nil, true_and, eq_self, gt_istore, gw_set, gt_iinc, gt_ink, gw_nth, gt_goto, Option.toList, List.cons_append, List.nil_append, Nat.add_zero, ka0_0]
        obtain ⟨w_7, hw_7, h⟩ := gw_lt h
        try rw [← hw_7]
        exact ih h hq
theorem B_X11_aliases_16 {l : Launch} {x : gw_C} {d : Nat} {S : gw_S} {Q : Option Value → gw_S → gw_M → Prop} {K : Nat → gw_Kt} {mc ms cc ss : Nat} (hcc : cc ≤ mc) (hss : ss ≤ ms) (hK : gw_cl l x (d + 3) mc ms bsX11_aliases Q K) {a0 : Nat} (hS0 : gw_sh S 11 a0) {n0 : Nat} : ∀ {n : Nat} {v1 v2 v3} {u4 u5 : Value} {μ : gw_M} {r}, F_X11_aliases_16 n0 a0 n v1 v2 v3 μ = some r → Q (some (.int r)) S μ → K 16 [.ref a0, .int v1, .int v2, .int v3, u4, u5] [] S μ cc ss := by
  intro n
  induction n with
  | zero => intro v1 v2 v3 u4 u5 μ r h hq; simp [F_X11_aliases_16] at h
  | succ n ih =>
    intro v1 v2 v3 u4 u5 μ r h hq
    simp only [F_X11_aliases_16] at h
    refine hK _ _ _ _ _ _ _ ?_
    rw [fdX11_aliases_16]
    simp only [gt_nil, true_and, eq_self, gt_iload_n, gt_ink, gw_nth, gt_bipush, gt_icmp, gt_istore, gw_set, gt_iconst, bkX11_aliases_16]
    refine ⟨fun c_1 => ?_, fun c_1 => ?_⟩
    · replace h := gw_ifp2 (gw_c2_ge _ _) h c_1
      refine hK _ _ _ _ _ _ _ ?_
      rw [fdX11_aliases_78]
      simp only [gt_nil, true_and, eq_self, gt_iload_n, gt_ink, gw_nth, gt_iret, gt_retz, bkX11_aliases_78]
      obtain rfl := gw_inj1 h
      exact ⟨hcc, hss, hq⟩
    · replace h := gw_ifn2 (gw_c2_ge _ _) h c_1
      exact B_X11_aliases_28 hcc hss hK hS0 ih h hq
theorem ok_X11_aliases {l : Launch} {x : gw_C} {d : Nat} {S : gw_S} {Q : Option Value → gw_S → gw_M → Prop} {v1 : Int32} {a0 : Nat} {n0 : Nat} {μ : gw_M} {r} (hS0 : gw_sh S 11 a0) (h : F_X11_aliases n0 a0 v1 μ = some r) (hq : Q (some (.int r)) S μ) : gw_ok l x (d + 4) sgX11_aliases 0 0 [.ref a0, .int v1] S μ Q := by
  refine gw_ok_of stX11_aliases (lv0 := [.ref a0, .int v1, .retAddr 0, .retAddr 0, .retAddr 0, .retAddr 0]) (Nat.le_of_ble_eq_true rfl) rfl rfl ?_
  intro K hK
  have hcc : 0 ≤ 0 := Nat.zero_le _
  have hss : 0 ≤ 0 := Nat.zero_le _
  unfold F_X11_aliases at h
  refine hK _ _ _ _ _ _ _ ?_
  rw [fdX11_aliases_0]
  simp only [gt_nil, true_and, eq_self, gt_iload_n, gt_ink, gw_nth, gt_iconst, gt_bipush, gt_s1_0, gt_s2_0, gt_s3_0, gt_s4_0, gt_s1_1, gt_s2_1, gt_s3_1, gt_s4_1, gt_acpy, gt_if, gt_iret, gt_retz, bkX11_aliases_0]
  obtain ⟨r_1, e_3, h⟩ := gw_bnd h
  refine ⟨rfl, 0, 0, hcc, hss, ok_X11_isIn e_3 ?_⟩
  intro hbr_1
  simp only [gt_nil, true_and, eq_self, gt_if, gt_iconst, gt_iret, gt_retz, Option.toList, List.cons_append, List.nil_append, Nat.add_zero]
  refine ⟨fun c_5 => ?_, fun c_5 => ?_⟩
  · replace h := gw_ifp h c_5
    refine hK _ _ _ _ _ _ _ ?_
    rw [fdX11_aliases_12]
    simp only [gt_nil, true_and, eq_self, gt_iconst, gt_istore_n, gw_set, bkX11_aliases_12]
    exact B_X11_aliases_16 hcc hss hK hS0 h hq
  · replace h := gw_ifn h c_5
    obtain rfl := gw_inj1 h
    exact ⟨hcc, hss, hq⟩
def F_X11_free (n0 : Nat) (a0 : Nat) (μ : gw_M) : Option (Int32) := (F_X11_freeFrame n0 a0 μ).bind (fun (r_1 : Int32) => some r_1)
theorem ok_X11_free {l : Launch} {x : gw_C} {d : Nat} {S : gw_S} {Q : Option Value → gw_S → gw_M → Prop} {a0 : Nat} {n0 : Nat} {μ : gw_M} {r} (hS0 : gw_sh S 11 a0) (h : F_X11_free n0 a0 μ = some r) (hq : Q (some (.int r)) S μ) : gw_ok l x (d + 5) sgX11_free 0 0 [.ref a0] S μ Q := by
  refine gw_ok_of stX11_free (lv0 := [.ref a0]) (Nat.le_of_ble_eq_true rfl) rfl rfl ?_
  intro K hK
  have hcc : 0 ≤ 0 := Nat.zero_le _
  have hss : 0 ≤ 0 := Nat.zero_le _
  have ka0_0 : gw_kd S a0 = 11 := (hS0 0 _ rfl).1
  unfold F_X11_free at h
  refine hK _ _ _ _ _ _ _ ?_
  rw [fdX11_free_0]
  simp only [gt_nil, true_and, eq_self, gt_aload_n, gt_rfk, gw_nth, gt_v0, gt_v1, gt_v2, gt_v3, gt_v4, gt_v5, gt_iret, gt_retz, bkX11_free_0, ka0_0]
  obtain ⟨r_1, e_3, h⟩ := gw_bnd h
  refine ⟨rfl, 0, 0, hcc, hss, ok_X11_freeFrame hS0 e_3 ?_⟩
  simp only [gt_nil, true_and, eq_self, gt_iret, gt_retz, Option.toList, List.cons_append, List.nil_append, Nat.add_zero, ka0_0]
  obtain rfl := gw_inj1 h
  exact ⟨hcc, hss, hq⟩
def F_X11_wanted (n0 : Nat) (a0 : Nat) (v1 : Int32) (μ : gw_M) : Option (Int32) := (if ¬ v1 = 2 then (F_X11_isIn n0 v1 0 1 μ).bind (fun (r_2 : Int32) => (if r_2 = 0 then some (-1) else (if 0 ≤ ((17 : Int32) + v1) ∧ ((17 : Int32) + v1).toNatClampNeg < 20813 then some (μ (a0 + 1) ((17 : Int32) + v1).toNatClampNeg) else none))) else some ((μ (a0 + 1) 17) ||| (μ (a0 + 1) 18)))
theorem ok_X11_wanted {l : Launch} {x : gw_C} {d : Nat} {S : gw_S} {Q : Option Value → gw_S → gw_M → Prop} {v1 : Int32} {a0 : Nat} {n0 : Nat} {μ : gw_M} {r} (hS0 : gw_sh S 11 a0) (h : F_X11_wanted n0 a0 v1 μ = some r) (hq : Q (some (.int r)) S μ) : gw_ok l x (d + 2) sgX11_wanted 0 0 [.ref a0, .int v1] S μ Q := by
  refine gw_ok_of stX11_wanted (lv0 := [.ref a0, .int v1]) (Nat.le_of_ble_eq_true rfl) rfl rfl ?_
  intro K hK
  have hcc : 0 ≤ 0 := Nat.zero_le _
  have hss : 0 ≤ 0 := Nat.zero_le _
  have ka0_0 : gw_kd S a0 = 11 := (hS0 0 _ rfl).1
  have ra0_0_0 : gw_rf S a0 0 = a0 + 1 := (hS0 0 _ rfl).2.2 (0, 1) (by decide)
  have ka0_1 : gw_kd S (a0 + 1) = 12 := (hS0 1 _ rfl).1
  have la0_1 : gw_ln S (a0 + 1) = 20813 := (hS0 1 _ rfl).2.1
  unfold F_X11_wanted at h
  refine hK _ _ _ _ _ _ _ ?_
  rw [fdX11_wanted_0]
  simp only [gt_nil, true_and, eq_self, gt_iload_n, gt_ink, gw_nth, gt_iconst, gt_icmp, gt_aload_n, gt_rfk, gt_get_r, gt_get_i, gt_get_z, gt_bipush, gt_iaload, gt_ior, gt_goto, bkX11_wanted_0, ka0_0, ra0_0_0, ka0_1, la0_1, (show Int32.toNatClampNeg 17 = 17 from rfl), (show Int32.toNatClampNeg 18 = 18 from rfl)]
  refine ⟨fun c_1 => ?_, fun c_1 => ?_⟩
  · replace h := gw_ifp2 (gw_c2_ne _ _) h c_1
    refine hK _ _ _ _ _ _ _ ?_
    rw [fdX11_wanted_23]
    simp only [gt_nil, true_and, eq_self, gt_iload_n, gt_ink, gw_nth, gt_iconst, gt_s1_0, gt_s2_0, gt_s3_0, gt_s4_0, gt_s1_1, gt_s2_1, gt_s3_1, gt_s4_1, gt_acpy, gt_if, gt_aload_n, gt_rfk, gt_get_r, gt_get_i, gt_get_z, gt_bipush, gt_iadd, gt_iaload, gt_goto, bkX11_wanted_23, ka0_0, ra0_0_0, ka0_1, la0_1, (show Int32.toNatClampNeg 17 = 17 from rfl), (show Int32.toNatClampNeg 18 = 18 from rfl)]
    obtain ⟨r_2, e_4, h⟩ := gw_bnd h
    refine ⟨rfl, 0, 0, hcc, hss, ok_X11_isIn e_4 ?_⟩
    intro hbr_2
    simp only [gt_nil, true_and, eq_self, gt_if, gt_aload_n, gt_rfk, gw_nth, gt_get_r, gt_get_i, gt_get_z, gt_bipush, gt_iload_n, gt_ink, gt_iadd, gt_iaload, gt_goto, Option.toList, List.cons_append, List.nil_append, Nat.add_zero, ka0_0, ra0_0_0, ka0_1, la0_1, (show Int32.toNatClampNeg 17 = 17 from rfl), (show Int32.toNatClampNeg 18 = 18 from rfl)]
    refine ⟨fun c_6 => ?_, fun c_6 => ?_⟩
    · replace h := gw_ifp h c_6
      refine hK _ _ _ _ _ _ _ ?_
      rw [fdX11_wanted_44]
      simp only [gt_nil, true_and, eq_self, gt_iconst, bkX11_wanted_44, ka0_0, ra0_0_0, ka0_1, la0_1, (show Int32.toNatClampNeg 17 = 17 from rfl), (show Int32.toNatClampNeg 18 = 18 from rfl)]
      refine hK _ _ _ _ _ _ _ ?_
      rw [fdX11_wanted_45]
      simp only [gt_nil, true_and, eq_self, gt_iret, gt_retz, bkX11_wanted_45, ka0_0, ra0_0_0, ka0_1, la0_1, (show Int32.toNatClampNeg 17 = 17 from rfl), (show Int32.toNatClampNeg 18 = 18 from rfl)]
      obtain rfl := gw_inj1 h
      exact ⟨hcc, hss, hq⟩
    · replace h := gw_ifn h c_6
      obtain ⟨c_7, h⟩ := gw_ife h
      refine ⟨c_7, ?_⟩
      refine hK _ _ _ _ _ _ _ ?_
      rw [fdX11_wanted_45]
      simp only [gt_nil, true_and, eq_self, gt_iret, gt_retz, bkX11_wanted_45, ka0_0, ra0_0_0, ka0_1, la0_1, (show Int32.toNatClampNeg 17 = 17 from rfl), (show Int32.toNatClampNeg 18 = 18 from rfl)]
      obtain rfl := gw_inj1 h
      exact ⟨hcc, hss, hq⟩
  · replace h := gw_ifn2 (gw_c2_ne _ _) h c_1
    refine ⟨(⟨by decide, by decide⟩ : gw_in 17 20813), ?_⟩
    refine ⟨(⟨by decide, by decide⟩ : gw_in 18 20813), ?_⟩
    refine hK _ _ _ _ _ _ _ ?_
    rw [fdX11_wanted_45]
    simp only [gt_nil, true_and, eq_self, gt_iret, gt_retz, bkX11_wanted_45, ka0_0, ra0_0_0, ka0_1, la0_1, (show Int32.toNatClampNeg 17 = 17 from rfl), (show Int32.toNatClampNeg 18 = 18 from rfl)]
    obtain rfl := gw_inj1 h
    exact ⟨hcc, hss, hq⟩
def F_X11_whose (n0 : Nat) (a0 : Nat) (v1 : Int32) (μ : gw_M) : Option (Int32) := (F_X11_isIn n0 v1 0 7 μ).bind (fun (r_1 : Int32) => (if r_1 = 0 then some (-1) else (F_X11_whoSees n0 a0 v1 μ).bind (fun (r_6 : Int32) => some r_6)))
theorem ok_X11_whose {l : Launch} {x : gw_C} {d : Nat} {S : gw_S} {Q : Option Value → gw_S → gw_M → Prop} {v1 : Int32} {a0 : Nat} {n0 : Nat} {μ : gw_M} {r} (hS0 : gw_sh S 11 a0) (h : F_X11_whose n0 a0 v1 μ = some r) (hq : Q (some (.int r)) S μ) : gw_ok l x (d + 3) sgX11_whose 0 0 [.ref a0, .int v1] S μ Q := by
  refine gw_ok_of stX11_whose (lv0 := [.ref a0, .int v1]) (Nat.le_of_ble_eq_true rfl) rfl rfl ?_
  intro K hK
  have hcc : 0 ≤ 0 := Nat.zero_le _
  have hss : 0 ≤ 0 := Nat.zero_le _
  have ka0_0 : gw_kd S a0 = 11 := (hS0 0 _ rfl).1
  unfold F_X11_whose at h
  refine hK _ _ _ _ _ _ _ ?_
  rw [fdX11_whose_0]
  simp only [gt_nil, true_and, eq_self, gt_iload_n, gt_ink, gw_nth, gt_iconst, gt_bipush, gt_s1_0, gt_s2_0, gt_s3_0, gt_s4_0, gt_s1_1, gt_s2_1, gt_s3_1, gt_s4_1, gt_acpy, gt_if, gt_aload_n, gt_rfk, gt_v0, gt_v1, gt_v2, gt_v3, gt_v4, gt_v5, gt_goto, bkX11_whose_0, ka0_0]
  obtain ⟨r_1, e_3, h⟩ := gw_bnd h
  refine ⟨rfl, 0, 0, hcc, hss, ok_X11_isIn e_3 ?_⟩
  intro hbr_1
  simp only [gt_nil, true_and, eq_self, gt_if, gt_aload_n, gt_rfk, gw_nth, gt_iload_n, gt_ink, gt_v0, gt_v1, gt_v2, gt_v3, gt_v4, gt_v5, gt_goto, Option.toList, List.cons_append, List.nil_append, Nat.add_zero, ka0_0]
  refine ⟨fun c_5 => ?_, fun c_5 => ?_⟩
  · replace h := gw_ifp h c_5
    refine hK _ _ _ _ _ _ _ ?_
    rw [fdX11_whose_18]
    simp only [gt_nil, true_and, eq_self, gt_iconst, bkX11_whose_18, ka0_0]
    refine hK _ _ _ _ _ _ _ ?_
    rw [fdX11_whose_19]
    simp only [gt_nil, true_and, eq_self, gt_iret, gt_retz, bkX11_whose_19, ka0_0]
    obtain rfl := gw_inj1 h
    exact ⟨hcc, hss, hq⟩
  · replace h := gw_ifn h c_5
    obtain ⟨r_6, e_8, h⟩ := gw_bnd h
    refine ⟨rfl, 0, 0, hcc, hss, ok_X11_whoSees hS0 e_8 ?_⟩
    simp only [gt_nil, true_and, eq_self, gt_goto, Option.toList, List.cons_append, List.nil_append, Nat.add_zero, ka0_0]
    refine hK _ _ _ _ _ _ _ ?_
    rw [fdX11_whose_19]
    simp only [gt_nil, true_and, eq_self, gt_iret, gt_retz, bkX11_whose_19, ka0_0]
    obtain rfl := gw_inj1 h
    exact ⟨hcc, hss, hq⟩
def F_X11_exit_56 (n0 : Nat) (a0 : Nat) (μ : gw_M) : Option (Int32) := some (-2)
def F_X11_exit (n0 : Nat) (a0 : Nat) (v1 : Int32) (v2 : Int32) (μ : gw_M) : Option (Int32) := (if ¬ v1 = (-1) then (F_X11_isIn n0 v1 0 ((μ (a0 + 1) 25) - (1 : Int32)) μ).bind (fun (r_2 : Int32) => (if r_2 = 0 then F_X11_exit_56 n0 a0 μ else (F_X11_isIn n0 v2 0 3 μ).bind (fun (r_7 : Int32) => (if r_7 = 0 then F_X11_exit_56 n0 a0 μ else (if 0 ≤ (((861 : Int32) + ((4 : Int32) * v1)) + v2) ∧ (((861 : Int32) + ((4 : Int32) * v1)) + v2).toNatClampNeg < 20813 then some (μ (a0 + 1) (((861 : Int32) + ((4 : Int32) * v1)) + v2).toNatClampNeg) else none))))) else some (μ (a0 + 1) 25))
theorem B_X11_exit_56 {l : Launch} {x : gw_C} {d : Nat} {S : gw_S} {Q : Option Value → gw_S → gw_M → Prop} {K : Nat → gw_Kt} {mc ms cc ss : Nat} (hcc : cc ≤ mc) (hss : ss ≤ ms) (hK : gw_cl l x (d + 1) mc ms bsX11_exit Q K) {a0 : Nat} (hS0 : gw_sh S 11 a0) {n0 : Nat}  {u1 u2 : Value} {μ : gw_M} {r} (h : F_X11_exit_56 n0 a0 μ = some r) (hq : Q (some (.int r)) S μ) : K 56 [.ref a0, u1, u2] [] S μ cc ss := by
  unfold F_X11_exit_56 at h
  refine hK _ _ _ _ _ _ _ ?_
  rw [fdX11_exit_56]
  simp only [gt_nil, true_and, eq_self, gt_bipush, bkX11_exit_56]
  refine hK _ _ _ _ _ _ _ ?_
  rw [fdX11_exit_58]
  simp only [gt_nil, true_and, eq_self, gt_iret, gt_retz, bkX11_exit_58]
  obtain rfl := gw_inj1 h
  exact ⟨hcc, hss, hq⟩
theorem ok_X11_exit {l : Launch} {x : gw_C} {d : Nat} {S : gw_S} {Q : Option Value → gw_S → gw_M → Prop} {v1 v2 : Int32} {a0 : Nat} {n0 : Nat} {μ : gw_M} {r} (hS0 : gw_sh S 11 a0) (h : F_X11_exit n0 a0 v1 v2 μ = some r) (hq : Q (some (.int r)) S μ) : gw_ok l x (d + 2) sgX11_exit 0 0 [.ref a0, .int v1, .int v2] S μ Q := by
  refine gw_ok_of stX11_exit (lv0 := [.ref a0, .int v1, .int v2]) (Nat.le_of_ble_eq_true rfl) rfl rfl ?_
  intro K hK
  have hcc : 0 ≤ 0 := Nat.zero_le _
  have hss : 0 ≤ 0 := Nat.zero_le _
  have ka0_0 : gw_kd S a0 = 11 := (hS0 0 _ rfl).1
  have ra0_0_0 : gw_rf S a0 0 = a0 + 1 := (hS0 0 _ rfl).2.2 (0, 1) (by decide)
  have ka0_1 : gw_kd S (a0 + 1) = 12 := (hS0 1 _ rfl).1
  have la0_1 : gw_ln S (a0 + 1) = 20813 := (hS0 1 _ rfl).2.1
  unfold F_X11_exit at h
  refine hK _ _ _ _ _ _ _ ?_
  rw [fdX11_exit_0]
  simp only [gt_nil, true_and, eq_self, gt_iload_n, gt_ink, gw_nth, gt_iconst, gt_icmp, gt_aload_n, gt_rfk, gt_get_r, gt_get_i, gt_get_z, gt_bipush, gt_iaload, gt_iret, gt_retz, bkX11_exit_0, ka0_0, ra0_0_0, ka0_1, la0_1, (show Int32.toNatClampNeg 25 = 25 from rfl)]
  refine ⟨fun c_1 => ?_, fun c_1 => ?_⟩
  · replace h := gw_ifp2 (gw_c2_ne _ _) h c_1
    refine hK _ _ _ _ _ _ _ ?_
    rw [fdX11_exit_13]
    simp only [gt_nil, true_and, eq_self, gt_iload_n, gt_ink, gw_nth, gt_iconst, gt_aload_n, gt_rfk, gt_get_r, gt_get_i, gt_get_z, gt_bipush, gt_iaload, gt_isub, gt_s1_0, gt_s2_0, gt_s3_0, gt_s4_0, gt_s1_1, gt_s2_1, gt_s3_1, gt_s4_1, gt_acpy, gt_if, gt_sipush, gt_imul, gt_iadd, gt_goto, bkX11_exit_13, ka0_0, ra0_0_0, ka0_1, la0_1, (show Int32.toNatClampNeg 25 = 25 from rfl)]
    refine ⟨(⟨by decide, by decide⟩ : gw_in 25 20813), ?_⟩
    obtain ⟨r_2, e_4, h⟩ := gw_bnd h
    refine ⟨rfl, 0, 0, hcc, hss, ok_X11_isIn e_4 ?_⟩
    intro hbr_2
    simp only [gt_nil, true_and, eq_self, gt_if, gt_iload_n, gt_ink, gw_nth, gt_iconst, gt_s1_0, gt_s2_0, gt_s3_0, gt_s4_0, gt_s1_1, gt_s2_1, gt_s3_1, gt_s4_1, gt_acpy, gt_aload_n, gt_rfk, gt_get_r, gt_get_i, gt_get_z, gt_sipush, gt_imul, gt_iadd, gt_iaload, gt_goto, Option.toList, List.cons_append, List.nil_append, Nat.add_zero, ka0_0, ra0_0_0, ka0_1, la0_1, (show Int32.toNatClampNeg 25 = 25 from rfl)]
    refine ⟨fun c_6 => ?_, fun c_6 => ?_⟩
    · replace h := gw_ifp h c_6
      exact B_X11_exit_56 hcc hss hK hS0 h hq
    · replace h := gw_ifn h c_6
      obtain ⟨r_7, e_9, h⟩ := gw_bnd h
      refine ⟨rfl, 0, 0, hcc, hss, ok_X11_isIn e_9 ?_⟩
      intro hbr_7
      simp only [gt_nil, true_and, eq_self, gt_if, gt_aload_n, gt_rfk, gw_nth, gt_get_r, gt_get_i, gt_get_z, gt_sipush, gt_iconst, gt_iload_n, gt_ink, gt_imul, gt_iadd, gt_iaload, gt_goto, Option.toList, List.cons_append, List.nil_append, Nat.add_zero, ka0_0, ra0_0_0, ka0_1, la0_1, (show Int32.toNatClampNeg 25 = 25 from rfl)]
      refine ⟨fun c_11 => ?_, fun c_11 => ?_⟩
      · replace h := gw_ifp h c_11
        exact B_X11_exit_56 hcc hss hK hS0 h hq
      · replace h := gw_ifn h c_11
        obtain ⟨c_12, h⟩ := gw_ife h
        refine ⟨c_12, ?_⟩
        refine hK _ _ _ _ _ _ _ ?_
        rw [fdX11_exit_58]
        simp only [gt_nil, true_and, eq_self, gt_iret, gt_retz, bkX11_exit_58, ka0_0, ra0_0_0, ka0_1, la0_1, (show Int32.toNatClampNeg 25 = 25 from rfl)]
        obtain rfl := gw_inj1 h
        exact ⟨hcc, hss, hq⟩
  · replace h := gw_ifn2 (gw_c2_ne _ _) h c_1
    refine ⟨(⟨by decide, by decide⟩ : gw_in 25 20813), ?_⟩
    obtain rfl := gw_inj1 h
    exact ⟨hcc, hss, hq⟩
def F_X11_exits_39 (rec4 : Int32 → Int32 → Int32 → gw_M → Option (Int32)) (n0 : Nat) (a0 : Nat) (v1 : Int32) (v3 : Int32) (s0 : Int32) (s1 : Int32) (μ : gw_M) : Option (Int32) := gw_let ((s0 + s1)) (fun (w_1 : Int32) => gw_let (v3 + 1) (fun (w_2 : Int32) => rec4 v1 w_1 w_2 μ))
def F_X11_exits_4 (n0 : Nat) (a0 : Nat) : Nat → Int32 → Int32 → Int32 → gw_M → Option (Int32)
  | 0, _, _, _, _ => none
  | n + 1, v1, v2, v3, μ => (if (μ (a0 + 1) 25) ≤ v3 then some v2 else (if 0 ≤ (((861 : Int32) + ((4 : Int32) * v3)) + (1 : Int32)) ∧ (((861 : Int32) + ((4 : Int32) * v3)) + (1 : Int32)).toNatClampNeg < 20813 then (if ¬ (μ (a0 + 1) (((861 : Int32) + ((4 : Int32) * v3)) + (1 : Int32)).toNatClampNeg) = v1 then F_X11_exits_39 (F_X11_exits_4 n0 a0 n) n0 a0 v1 v3 v2 0 μ else F_X11_exits_39 (F_X11_exits_4 n0 a0 n) n0 a0 v1 v3 v2 1 μ) else none))
def F_X11_exits (n0 : Nat) (a0 : Nat) (v1 : Int32) (μ : gw_M) : Option (Int32) := F_X11_exits_4 n0 a0 n0 v1 0 0 μ
theorem B_X11_exits_39 {l : Launch} {x : gw_C} {d : Nat} {S : gw_S} {Q : Option Value → gw_S → gw_M → Prop} {K : Nat → gw_Kt} {mc ms cc ss : Nat} (hcc : cc ≤ mc) (hss : ss ≤ ms) (hK : gw_cl l x (d + 0) mc ms bsX11_exits Q K) {a0 : Nat} (hS0 : gw_sh S 11 a0) {rec4 : Int32 → Int32 → Int32 → gw_M → Option (Int32)} (hrec4 : ∀ {v1 v2 v3} {μ : gw_M} {r}, rec4 v1 v2 v3 μ = some r → Q (some (.int r)) S μ → K 4 [.ref a0, .int v1, .int v2, .int v3] [] S μ cc ss) {n0 : Nat} {v1 v3 s0 s1} {u2 : Value} {μ : gw_M} {r} (h : F_X11_exits_39 rec4 n0 a0 v1 v3 s0 s1 μ = some r) (hq : Q (some (.int r)) S μ) : K 39 [.ref a0, .int v1, u2, .int v3] [.int s1, .int s0] S μ cc ss := by
  unfold F_X11_exits_39 at h
  refine hK _ _ _ _ _ _ _ ?_
  rw [fdX11_exits_39]
  simp only [gt_nil, true_and, eq_self, gt_iadd, gt_istore_n, gw_set, gt_iinc, gt_ink, gw_nth, gt_goto, bkX11_exits_39]
  obtain ⟨w_1, hw_1, h⟩ := gw_lt h
  try rw [← hw_1]
  obtain ⟨w_2, hw_2, h⟩ := gw_lt h
  try rw [← hw_2]
  exact hrec4 h hq
theorem B_X11_exits_4 {l : Launch} {x : gw_C} {d : Nat} {S : gw_S} {Q : Option Value → gw_S → gw_M → Prop} {K : Nat → gw_Kt} {mc ms cc ss : Nat} (hcc : cc ≤ mc) (hss : ss ≤ ms) (hK : gw_cl l x (d + 0) mc ms bsX11_exits Q K) {a0 : Nat} (hS0 : gw_sh S 11 a0) {n0 : Nat} : ∀ {n : Nat} {v1 v2 v3} {μ : gw_M} {r}, F_X11_exits_4 n0 a0 n v1 v2 v3 μ = some r → Q (some (.int r)) S μ → K 4 [.ref a0, .int v1, .int v2, .int v3] [] S μ cc ss := by
  have ka0_0 : gw_kd S a0 = 11 := (hS0 0 _ rfl).1
  have ra0_0_0 : gw_rf S a0 0 = a0 + 1 := (hS0 0 _ rfl).2.2 (0, 1) (by decide)
  have ka0_1 : gw_kd S (a0 + 1) = 12 := (hS0 1 _ rfl).1
  have la0_1 : gw_ln S (a0 + 1) = 20813 := (hS0 1 _ rfl).2.1
  intro n
  induction n with
  | zero => intro v1 v2 v3 μ r h hq; simp [F_X11_exits_4] at h
  | succ n ih =>
    intro v1 v2 v3 μ r h hq
    simp only [F_X11_exits_4] at h
    refine hK _ _ _ _ _ _ _ ?_
    rw [fdX11_exits_4]
    simp only [gt_nil, true_and, eq_self, gt_iload_n, gt_ink, gw_nth, gt_aload_n, gt_rfk, gt_get_r, gt_get_i, gt_get_z, gt_bipush, gt_iaload, gt_icmp, gt_sipush, gt_iconst, gt_imul, gt_iadd, gt_goto, bkX11_exits_4, ka0_0, ra0_0_0, ka0_1, la0_1, (show Int32.toNatClampNeg 25 = 25 from rfl)]
    refine ⟨(⟨by decide, by decide⟩ : gw_in 25 20813), ?_⟩
    refine ⟨fun c_1 => ?_, fun c_1 => ?_⟩
    · replace h := gw_ifp2 (gw_c2_ge _ _) h c_1
      refine hK _ _ _ _ _ _ _ ?_
      rw [fdX11_exits_47]
      simp only [gt_nil, true_and, eq_self, gt_iload_n, gt_ink, gw_nth, gt_iret, gt_retz, bkX11_exits_47, ka0_0, ra0_0_0, ka0_1, la0_1, (show Int32.toNatClampNeg 25 = 25 from rfl)]
      obtain rfl := gw_inj1 h
      exact ⟨hcc, hss, hq⟩
    · replace h := gw_ifn2 (gw_c2_ge _ _) h c_1
      obtain ⟨c_2, h⟩ := gw_ife h
      refine ⟨c_2, ?_⟩
      refine ⟨fun c_3 => ?_, fun c_3 => ?_⟩
      · replace h := gw_ifp2 (gw_c2_ne _ _) h c_3
        refine hK _ _ _ _ _ _ _ ?_
        rw [fdX11_exits_38]
        simp only [gt_nil, true_and, eq_self, gt_iconst, bkX11_exits_38, ka0_0, ra0_0_0, ka0_1, la0_1, (show Int32.toNatClampNeg 25 = 25 from rfl)]
        exact B_X11_exits_39 hcc hss hK hS0 ih h hq
      · replace h := gw_ifn2 (gw_c2_ne _ _) h c_3
        exact B_X11_exits_39 hcc hss hK hS0 ih h hq
theorem ok_X11_exits {l : Launch} {x : gw_C} {d : Nat} {S : gw_S} {Q : Option Value → gw_S → gw_M → Prop} {v1 : Int32} {a0 : Nat} {n0 : Nat} {μ : gw_M} {r} (hS0 : gw_sh S 11 a0) (h : F_X11_exits n0 a0 v1 μ = some r) (hq : Q (some (.int r)) S μ) : gw_ok l x (d + 1) sgX11_exits 0 0 [.ref a0, .int v1] S μ Q := by
  refine gw_ok_of stX11_exits (lv0 := [.ref a0, .int v1, .retAddr 0, .retAddr 0]) (Nat.le_of_ble_eq_true rfl) rfl rfl ?_
  intro K hK
  have hcc : 0 ≤ 0 := Nat.zero_le _
  have hss : 0 ≤ 0 := Nat.zero_le _
  unfold F_X11_exits at h
  refine hK _ _ _ _ _ _ _ ?_
  rw [fdX11_exits_0]
  simp only [gt_nil, true_and, eq_self, gt_iconst, gt_istore_n, gw_set, bkX11_exits_0]
  exact B_X11_exits_4 hcc hss hK hS0 h hq
def F_X11_spent (n0 : Nat) (a0 : Nat) (v1 : Int32) (μ : gw_M) : Option (Int32) := (F_X11_isIn n0 v1 0 3 μ).bind (fun (r_1 : Int32) => (if r_1 = 0 then some (-1) else (if 0 ≤ ((28 : Int32) + v1) ∧ ((28 : Int32) + v1).toNatClampNeg < 20813 then some (μ (a0 + 1) ((28 : Int32) + v1).toNatClampNeg) else none)))
theorem ok_X11_spent {l : Launch} {x : gw_C} {d : Nat} {S : gw_S} {Q : Option Value → gw_S → gw_M → Prop} {v1 : Int32} {a0 : Nat} {n0 : Nat} {μ : gw_M} {r} (hS0 : gw_sh S 11 a0) (h : F_X11_spent n0 a0 v1 μ = some r) (hq : Q (some (.int r)) S μ) : gw_ok l x (d + 2) sgX11_spent 0 0 [.ref a0, .int v1] S μ Q := by
  refine gw_ok_of stX11_spent (lv0 := [.ref a0, .int v1]) (Nat.le_of_ble_eq_true rfl) rfl rfl ?_
  intro K hK
  have hcc : 0 ≤ 0 := Nat.zero_le _
  have hss : 0 ≤ 0 := Nat.zero_le _
  have ka0_0 : gw_kd S a0 = 11 := (hS0 0 _ rfl).1
  have ra0_0_0 : gw_rf S a0 0 = a0 + 1 := (hS0 0 _ rfl).2.2 (0, 1) (by decide)
  have ka0_1 : gw_kd S (a0 + 1) = 12 := (hS0 1 _ rfl).1
  have la0_1 : gw_ln S (a0 + 1) = 20813 := (hS0 1 _ rfl).2.1
  unfold F_X11_spent at h
  refine hK _ _ _ _ _ _ _ ?_
  rw [fdX11_spent_0]
  simp only [gt_nil, true_and, eq_self, gt_iload_n, gt_ink, gw_nth, gt_iconst, gt_s1_0, gt_s2_0, gt_s3_0, gt_s4_0, gt_s1_1, gt_s2_1, gt_s3_1, gt_s4_1, gt_acpy, gt_if, gt_aload_n, gt_rfk, gt_get_r, gt_get_i, gt_get_z, gt_bipush, gt_iadd, gt_iaload, gt_goto, bkX11_spent_0, ka0_0, ra0_0_0, ka0_1, la0_1]
  obtain ⟨r_1, e_3, h⟩ := gw_bnd h
  refine ⟨rfl, 0, 0, hcc, hss, ok_X11_isIn e_3 ?_⟩
  intro hbr_1
  simp only [gt_nil, true_and, eq_self, gt_if, gt_aload_n, gt_rfk, gw_nth, gt_get_r, gt_get_i, gt_get_z, gt_bipush, gt_iload_n, gt_ink, gt_iadd, gt_iaload, gt_goto, Option.toList, List.cons_append, List.nil_append, Nat.add_zero, ka0_0, ra0_0_0, ka0_1, la0_1]
  refine ⟨fun c_5 => ?_, fun c_5 => ?_⟩
  · replace h := gw_ifp h c_5
    refine hK _ _ _ _ _ _ _ ?_
    rw [fdX11_spent_21]
    simp only [gt_nil, true_and, eq_self, gt_iconst, bkX11_spent_21, ka0_0, ra0_0_0, ka0_1, la0_1]
    refine hK _ _ _ _ _ _ _ ?_
    rw [fdX11_spent_22]
    simp only [gt_nil, true_and, eq_self, gt_iret, gt_retz, bkX11_spent_22, ka0_0, ra0_0_0, ka0_1, la0_1]
    obtain rfl := gw_inj1 h
    exact ⟨hcc, hss, hq⟩
  · replace h := gw_ifn h c_5
    obtain ⟨c_6, h⟩ := gw_ife h
    refine ⟨c_6, ?_⟩
    refine hK _ _ _ _ _ _ _ ?_
    rw [fdX11_spent_22]
    simp only [gt_nil, true_and, eq_self, gt_iret, gt_retz, bkX11_spent_22, ka0_0, ra0_0_0, ka0_1, la0_1]
    obtain rfl := gw_inj1 h
    exact ⟨hcc, hss, hq⟩
def F_X11_seenOf (n0 : Nat) (a0 : Nat) (v1 : Int32) (v2 : Int32) (μ : gw_M) : Option (Int32) := (F_X11_isIn n0 v1 0 7 μ).bind (fun (r_1 : Int32) => (if r_1 = 0 then some (-1) else (F_X11_isIn n0 v2 0 2 μ).bind (fun (r_6 : Int32) => (if ¬ r_6 = 0 then (if 0 ≤ (((32 : Int32) + ((3 : Int32) * v1)) + v2) ∧ (((32 : Int32) + ((3 : Int32) * v1)) + v2).toNatClampNeg < 20813 then some (μ (a0 + 1) (((32 : Int32) + ((3 : Int32) * v1)) + v2).toNatClampNeg) else none) else some (-1)))))
theorem ok_X11_seenOf {l : Launch} {x : gw_C} {d : Nat} {S : gw_S} {Q : Option Value → gw_S → gw_M → Prop} {v1 v2 : Int32} {a0 : Nat} {n0 : Nat} {μ : gw_M} {r} (hS0 : gw_sh S 11 a0) (h : F_X11_seenOf n0 a0 v1 v2 μ = some r) (hq : Q (some (.int r)) S μ) : gw_ok l x (d + 2) sgX11_seenOf 0 0 [.ref a0, .int v1, .int v2] S μ Q := by
  refine gw_ok_of stX11_seenOf (lv0 := [.ref a0, .int v1, .int v2]) (Nat.le_of_ble_eq_true rfl) rfl rfl ?_
  intro K hK
  have hcc : 0 ≤ 0 := Nat.zero_le _
  have hss : 0 ≤ 0 := Nat.zero_le _
  have ka0_0 : gw_kd S a0 = 11 := (hS0 0 _ rfl).1
  have ra0_0_0 : gw_rf S a0 0 = a0 + 1 := (hS0 0 _ rfl).2.2 (0, 1) (by decide)
  have ka0_1 : gw_kd S (a0 + 1) = 12 := (hS0 1 _ rfl).1
  have la0_1 : gw_ln S (a0 + 1) = 20813 := (hS0 1 _ rfl).2.1
  unfold F_X11_seenOf at h
  refine hK _ _ _ _ _ _ _ ?_
  rw [fdX11_seenOf_0]
  simp only [gt_nil, true_and, eq_self, gt_iload_n, gt_ink, gw_nth, gt_iconst, gt_bipush, gt_s1_0, gt_s2_0, gt_s3_0, gt_s4_0, gt_s1_1, gt_s2_1, gt_s3_1, gt_s4_1, gt_acpy, gt_if, bkX11_seenOf_0, ka0_0, ra0_0_0, ka0_1, la0_1]
  obtain ⟨r_1, e_3, h⟩ := gw_bnd h
  refine ⟨rfl, 0, 0, hcc, hss, ok_X11_isIn e_3 ?_⟩
  intro hbr_1
  simp only [gt_nil, true_and, eq_self, gt_if, gt_iload_n, gt_ink, gw_nth, gt_iconst, gt_s1_0, gt_s2_0, gt_s3_0, gt_s4_0, gt_s1_1, gt_s2_1, gt_s3_1, gt_s4_1, gt_acpy, Option.toList, List.cons_append, List.nil_append, Nat.add_zero, ka0_0, ra0_0_0, ka0_1, la0_1]
  refine ⟨fun c_5 => ?_, fun c_5 => ?_⟩
  · replace h := gw_ifp h c_5
    refine hK _ _ _ _ _ _ _ ?_
    rw [fdX11_seenOf_19]
    simp only [gt_nil, true_and, eq_self, gt_iconst, gt_iret, gt_retz, bkX11_seenOf_19, ka0_0, ra0_0_0, ka0_1, la0_1]
    obtain rfl := gw_inj1 h
    exact ⟨hcc, hss, hq⟩
  · replace h := gw_ifn h c_5
    obtain ⟨r_6, e_8, h⟩ := gw_bnd h
    refine ⟨rfl, 0, 0, hcc, hss, ok_X11_isIn e_8 ?_⟩
    intro hbr_6
    simp only [gt_nil, true_and, eq_self, gt_if, Option.toList, List.cons_append, List.nil_append, Nat.add_zero, ka0_0, ra0_0_0, ka0_1, la0_1]
    refine ⟨fun c_10 => ?_, fun c_10 => ?_⟩
    · replace h := gw_ifp h c_10
      refine hK _ _ _ _ _ _ _ ?_
      rw [fdX11_seenOf_21]
      simp only [gt_nil, true_and, eq_self, gt_aload_n, gt_rfk, gw_nth, gt_get_r, gt_get_i, gt_get_z, gt_bipush, gt_iconst, gt_iload_n, gt_ink, gt_imul, gt_iadd, gt_iaload, gt_iret, gt_retz, bkX11_seenOf_21, ka0_0, ra0_0_0, ka0_1, la0_1]
      obtain ⟨c_11, h⟩ := gw_ife h
      refine ⟨c_11, ?_⟩
      obtain rfl := gw_inj1 h
      exact ⟨hcc, hss, hq⟩
    · replace h := gw_ifn h c_10
      refine hK _ _ _ _ _ _ _ ?_
      rw [fdX11_seenOf_19]
      simp only [gt_nil, true_and, eq_self, gt_iconst, gt_iret, gt_retz, bkX11_seenOf_19, ka0_0, ra0_0_0, ka0_1, la0_1]
      obtain rfl := gw_inj1 h
      exact ⟨hcc, hss, hq⟩
def F_X11_pending (n0 : Nat) (a0 : Nat) (v1 : Int32) (μ : gw_M) : Option (Int32) := (F_X11_isGuest n0 v1 μ).bind (fun (r_1 : Int32) => (if r_1 = 0 then some (-1) else (F_X11_guestAt n0 a0 v1 μ).bind (fun (r_6 : Int32) => (if 0 ≤ (r_6 + (0 : Int32)) ∧ (r_6 + (0 : Int32)).toNatClampNeg < 20813 then some (μ (a0 + 1) (r_6 + (0 : Int32)).toNatClampNeg) else none))))
theorem ok_X11_pending {l : Launch} {x : gw_C} {d : Nat} {S : gw_S} {Q : Option Value → gw_S → gw_M → Prop} {v1 : Int32} {a0 : Nat} {n0 : Nat} {μ : gw_M} {r} (hS0 : gw_sh S 11 a0) (h : F_X11_pending n0 a0 v1 μ = some r) (hq : Q (some (.int r)) S μ) : gw_ok l x (d + 3) sgX11_pending 0 0 [.ref a0, .int v1] S μ Q := by
  refine gw_ok_of stX11_pending (lv0 := [.ref a0, .int v1]) (Nat.le_of_ble_eq_true rfl) rfl rfl ?_
  intro K hK
  have hcc : 0 ≤ 0 := Nat.zero_le _
  have hss : 0 ≤ 0 := Nat.zero_le _
  have ka0_0 : gw_kd S a0 = 11 := (hS0 0 _ rfl).1
  have ra0_0_0 : gw_rf S a0 0 = a0 + 1 := (hS0 0 _ rfl).2.2 (0, 1) (by decide)
  have ka0_1 : gw_kd S (a0 + 1) = 12 := (hS0 1 _ rfl).1
  have la0_1 : gw_ln S (a0 + 1) = 20813 := (hS0 1 _ rfl).2.1
  unfold F_X11_pending at h
  refine hK _ _ _ _ _ _ _ ?_
  rw [fdX11_pending_0]
  simp only [gt_nil, true_and, eq_self, gt_iload_n, gt_ink, gw_nth, gt_s1_0, gt_s2_0, gt_s3_0, gt_s4_0, gt_s1_1, gt_s2_1, gt_s3_1, gt_s4_1, gt_acpy, gt_if, gt_aload_n, gt_rfk, gt_get_r, gt_get_i, gt_get_z, gt_v0, gt_v1, gt_v2, gt_v3, gt_v4, gt_v5, gt_iconst, gt_iadd, gt_iaload, gt_goto, bkX11_pending_0, ka0_0, ra0_0_0, ka0_1, la0_1]
  obtain ⟨r_1, e_3, h⟩ := gw_bnd h
  refine ⟨rfl, 0, 0, hcc, hss, ok_X11_isGuest e_3 ?_⟩
  intro hbr_1
  simp only [gt_nil, true_and, eq_self, gt_if, gt_aload_n, gt_rfk, gw_nth, gt_get_r, gt_get_i, gt_get_z, gt_iload_n, gt_ink, gt_v0, gt_v1, gt_v2, gt_v3, gt_v4, gt_v5, gt_iconst, gt_iadd, gt_iaload, gt_goto, Option.toList, List.cons_append, List.nil_append, Nat.add_zero, ka0_0, ra0_0_0, ka0_1, la0_1]
  refine ⟨fun c_5 => ?_, fun c_5 => ?_⟩
  · replace h := gw_ifp h c_5
    refine hK _ _ _ _ _ _ _ ?_
    rw [fdX11_pending_22]
    simp only [gt_nil, true_and, eq_self, gt_iconst, bkX11_pending_22, ka0_0, ra0_0_0, ka0_1, la0_1]
    refine hK _ _ _ _ _ _ _ ?_
    rw [fdX11_pending_23]
    simp only [gt_nil, true_and, eq_self, gt_iret, gt_retz, bkX11_pending_23, ka0_0, ra0_0_0, ka0_1, la0_1]
    obtain rfl := gw_inj1 h
    exact ⟨hcc, hss, hq⟩
  · replace h := gw_ifn h c_5
    obtain ⟨r_6, e_8, h⟩ := gw_bnd h
    refine ⟨rfl, 0, 0, hcc, hss, ok_X11_guestAt hS0 e_8 ?_⟩
    simp only [gt_nil, true_and, eq_self, gt_iconst, gt_iadd, gt_iaload, gt_goto, Option.toList, List.cons_append, List.nil_append, Nat.add_zero, ka0_0, ra0_0_0, ka0_1, la0_1]
    obtain ⟨c_10, h⟩ := gw_ife h
    refine ⟨c_10, ?_⟩
    refine hK _ _ _ _ _ _ _ ?_
    rw [fdX11_pending_23]
    simp only [gt_nil, true_and, eq_self, gt_iret, gt_retz, bkX11_pending_23, ka0_0, ra0_0_0, ka0_1, la0_1]
    obtain rfl := gw_inj1 h
    exact ⟨hcc, hss, hq⟩
def F_X11_longest (n0 : Nat) (a0 : Nat) (v1 : Int32) (μ : gw_M) : Option (Int32) := (F_X11_isGuest n0 v1 μ).bind (fun (r_1 : Int32) => (if r_1 = 0 then some (-1) else (if 0 ≤ (((56 : Int32) + v1) - (1 : Int32)) ∧ (((56 : Int32) + v1) - (1 : Int32)).toNatClampNeg < 20813 then some (μ (a0 + 1) (((56 : Int32) + v1) - (1 : Int32)).toNatClampNeg) else none)))
theorem ok_X11_longest {l : Launch} {x : gw_C} {d : Nat} {S : gw_S} {Q : Option Value → gw_S → gw_M → Prop} {v1 : Int32} {a0 : Nat} {n0 : Nat} {μ : gw_M} {r} (hS0 : gw_sh S 11 a0) (h : F_X11_longest n0 a0 v1 μ = some r) (hq : Q (some (.int r)) S μ) : gw_ok l x (d + 3) sgX11_longest 0 0 [.ref a0, .int v1] S μ Q := by
  refine gw_ok_of stX11_longest (lv0 := [.ref a0, .int v1]) (Nat.le_of_ble_eq_true rfl) rfl rfl ?_
  intro K hK
  have hcc : 0 ≤ 0 := Nat.zero_le _
  have hss : 0 ≤ 0 := Nat.zero_le _
  have ka0_0 : gw_kd S a0 = 11 := (hS0 0 _ rfl).1
  have ra0_0_0 : gw_rf S a0 0 = a0 + 1 := (hS0 0 _ rfl).2.2 (0, 1) (by decide)
  have ka0_1 : gw_kd S (a0 + 1) = 12 := (hS0 1 _ rfl).1
  have la0_1 : gw_ln S (a0 + 1) = 20813 := (hS0 1 _ rfl).2.1
  unfold F_X11_longest at h
  refine hK _ _ _ _ _ _ _ ?_
  rw [fdX11_longest_0]
  simp only [gt_nil, true_and, eq_self, gt_iload_n, gt_ink, gw_nth, gt_s1_0, gt_s2_0, gt_s3_0, gt_s4_0, gt_s1_1, gt_s2_1, gt_s3_1, gt_s4_1, gt_acpy, gt_if, gt_aload_n, gt_rfk, gt_get_r, gt_get_i, gt_get_z, gt_bipush, gt_iadd, gt_iconst, gt_isub, gt_iaload, gt_goto, bkX11_longest_0, ka0_0, ra0_0_0, ka0_1, la0_1]
  obtain ⟨r_1, e_3, h⟩ := gw_bnd h
  refine ⟨rfl, 0, 0, hcc, hss, ok_X11_isGuest e_3 ?_⟩
  intro hbr_1
  simp only [gt_nil, true_and, eq_self, gt_if, gt_aload_n, gt_rfk, gw_nth, gt_get_r, gt_get_i, gt_get_z, gt_bipush, gt_iload_n, gt_ink, gt_iadd, gt_iconst, gt_isub, gt_iaload, gt_goto, Option.toList, List.cons_append, List.nil_append, Nat.add_zero, ka0_0, ra0_0_0, ka0_1, la0_1]
  refine ⟨fun c_5 => ?_, fun c_5 => ?_⟩
  · replace h := gw_ifp h c_5
    refine hK _ _ _ _ _ _ _ ?_
    rw [fdX11_longest_21]
    simp only [gt_nil, true_and, eq_self, gt_iconst, bkX11_longest_21, ka0_0, ra0_0_0, ka0_1, la0_1]
    refine hK _ _ _ _ _ _ _ ?_
    rw [fdX11_longest_22]
    simp only [gt_nil, true_and, eq_self, gt_iret, gt_retz, bkX11_longest_22, ka0_0, ra0_0_0, ka0_1, la0_1]
    obtain rfl := gw_inj1 h
    exact ⟨hcc, hss, hq⟩
  · replace h := gw_ifn h c_5
    obtain ⟨c_6, h⟩ := gw_ife h
    refine ⟨c_6, ?_⟩
    refine hK _ _ _ _ _ _ _ ?_
    rw [fdX11_longest_22]
    simp only [gt_nil, true_and, eq_self, gt_iret, gt_retz, bkX11_longest_22, ka0_0, ra0_0_0, ka0_1, la0_1]
    obtain rfl := gw_inj1 h
    exact ⟨hcc, hss, hq⟩
def F_X11_pendingFor (n0 : Nat) (a0 : Nat) (v1 : Int32) (v2 : Int32) (μ : gw_M) : Option (Int32) := (F_X11_isGuest n0 v1 μ).bind (fun (r_1 : Int32) => (if r_1 = 0 then some (-1) else (F_X11_isIn n0 v2 0 15 μ).bind (fun (r_6 : Int32) => (if r_6 = 0 then some (-1) else (F_X11_guestAt n0 a0 v1 μ).bind (fun (r_11 : Int32) => (if 0 ≤ (r_11 + (0 : Int32)) ∧ (r_11 + (0 : Int32)).toNatClampNeg < 20813 then (F_X11_has n0 (μ (a0 + 1) (r_11 + (0 : Int32)).toNatClampNeg) v2 μ).bind (fun (r_16 : Int32) => (if ¬ r_16 = 0 then (F_X11_sinceOf n0 a0 v1 v2 μ).bind (fun (r_21 : Int32) => some r_21) else some (-1))) else none))))))
theorem ok_X11_pendingFor {l : Launch} {x : gw_C} {d : Nat} {S : gw_S} {Q : Option Value → gw_S → gw_M → Prop} {v1 v2 : Int32} {a0 : Nat} {n0 : Nat} {μ : gw_M} {r} (hS0 : gw_sh S 11 a0) (h : F_X11_pendingFor n0 a0 v1 v2 μ = some r) (hq : Q (some (.int r)) S μ) : gw_ok l x (d + 3) sgX11_pendingFor 0 0 [.ref a0, .int v1, .int v2] S μ Q := by
  refine gw_ok_of stX11_pendingFor (lv0 := [.ref a0, .int v1, .int v2]) (Nat.le_of_ble_eq_true rfl) rfl rfl ?_
  intro K hK
  have hcc : 0 ≤ 0 := Nat.zero_le _
  have hss : 0 ≤ 0 := Nat.zero_le _
  have ka0_0 : gw_kd S a0 = 11 := (hS0 0 _ rfl).1
  have ra0_0_0 : gw_rf S a0 0 = a0 + 1 := (hS0 0 _ rfl).2.2 (0, 1) (by decide)
  have ka0_1 : gw_kd S (a0 + 1) = 12 := (hS0 1 _ rfl).1
  have la0_1 : gw_ln S (a0 + 1) = 20813 := (hS0 1 _ rfl).2.1
  unfold F_X11_pendingFor at h
  refine hK _ _ _ _ _ _ _ ?_
  rw [fdX11_pendingFor_0]
  simp -implicitDefEqProofs only [gt_nil, true_and, eq_self, gt_iload_n, gt_ink, gw_nth, gt_s1_0, gt_s2_0, gt_s3_0, gt_s4_0, gt_s1_1, gt_s2_1, gt_s3_1, gt_s4_1, gt_acpy, gt_if, gt_iconst, gt_bipush, gt_aload_n, gt_rfk, gt_get_r, gt_get_i, gt_get_z, gt_v0, gt_v1, gt_v2, gt_v3, gt_v4, gt_v5, gt_iadd, gt_iaload, bkX11_pendingFor_0, ka0_0, ra0_0_0, ka0_1, la0_1]
  obtain ⟨r_1, e_3, h⟩ := gw_bnd h
  refine ⟨rfl, 0, 0, hcc, hss, ok_X11_isGuest e_3 ?_⟩
  intro hbr_1
  simp -implicitDefEqProofs only [gt_nil, true_and, eq_self, gt_if, gt_iload_n, gt_ink, gw_nth, gt_iconst, gt_bipush, gt_s1_0, gt_s2_0, gt_s3_0, gt_s4_0, gt_s1_1, gt_s2_1, gt_s3_1, gt_s4_1, gt_acpy, gt_aload_n, gt_rfk, gt_get_r, gt_get_i, gt_get_z, gt_v0, gt_v1, gt_v2, gt_v3, gt_v4, gt_v5, gt_iadd, gt_iaload, Option.toList, List.cons_append, List.nil_append, Nat.add_zero, ka0_0, ra0_0_0, ka0_1, la0_1]
  refine ⟨fun c_5 => ?_, fun c_5 => ?_⟩
  · replace h := gw_ifp h c_5
    refine hK _ _ _ _ _ _ _ ?_
    rw [fdX11_pendingFor_36]
    simp -implicitDefEqProofs only [gt_nil, true_and, eq_self, gt_iconst, gt_iret, gt_retz, bkX11_pendingFor_36, ka0_0, ra0_0_0, ka0_1, la0_1]
    obtain rfl := gw_inj1 h
    exact ⟨hcc, hss, hq⟩
  · replace h := gw_ifn h c_5
    obtain ⟨r_6, e_8, h⟩ := gw_bnd h
    refine ⟨rfl, 0, 0, hcc, hss, ok_X11_isIn e_8 ?_⟩
    intro hbr_6
    simp -implicitDefEqProofs only [gt_nil, true_and, eq_self, gt_if, gt_aload_n, gt_rfk, gw_nth, gt_get_r, gt_get_i, gt_get_z, gt_iload_n, gt_ink, gt_v0, gt_v1, gt_v2, gt_v3, gt_v4, gt_v5, gt_iconst, gt_iadd, gt_iaload, gt_s1_0, gt_s2_0, gt_s3_0, gt_s4_0, gt_s1_1, gt_s2_1, gt_s3_1, gt_s4_1, gt_acpy, Option.toList, List.cons_append, List.nil_append, Nat.add_zero, ka0_0, ra0_0_0, ka0_1, la0_1]
    refine ⟨fun c_10 => ?_, fun c_10 => ?_⟩
    · replace h := gw_ifp h c_10
      refine hK _ _ _ _ _ _ _ ?_
      rw [fdX11_pendingFor_36]
      simp -implicitDefEqProofs only [gt_nil, true_and, eq_self, gt_iconst, gt_iret, gt_retz, bkX11_pendingFor_36, ka0_0, ra0_0_0, ka0_1, la0_1]
      obtain rfl := gw_inj1 h
      exact ⟨hcc, hss, hq⟩
    · replace h := gw_ifn h c_10
      obtain ⟨r_11, e_13, h⟩ := gw_bnd h
      refine ⟨rfl, 0, 0, hcc, hss, ok_X11_guestAt hS0 e_13 ?_⟩
      simp -implicitDefEqProofs only [gt_nil, true_and, eq_self, gt_iconst, gt_iadd, gt_iaload, gt_iload_n, gt_ink, gw_nth, gt_s1_0, gt_s2_0, gt_s3_0, gt_s4_0, gt_s1_1, gt_s2_1, gt_s3_1, gt_s4_1, gt_acpy, gt_if, Option.toList, List.cons_append, List.nil_append, Nat.add_zero, ka0_0, ra0_0_0, ka0_1, la0_1]
      obtain ⟨c_15, h⟩ := gw_ife h
      refine ⟨c_15, ?_⟩
      obtain ⟨r_16, e_18, h⟩ := gw_bnd h
      refine ⟨rfl, 0, 0, hcc, hss, ok_X11_has e_18 ?_⟩
      intro hbr_16
      simp -implicitDefEqProofs only [gt_nil, true_and, eq_self, gt_if, Option.toList, List.cons_append, List.nil_append, Nat.add_zero, ka0_0, ra0_0_0, ka0_1, la0_1]
      refine ⟨fun c_20 => ?_, fun c_20 => ?_⟩
      · replace h := gw_ifp h c_20
        refine hK _ _ _ _ _ _ _ ?_
        rw [fdX11_pendingFor_38]
        simp -implicitDefEqProofs only [gt_nil, true_and, eq_self, gt_aload_n, gt_rfk, gw_nth, gt_iload_n, gt_ink, gt_v0, gt_v1, gt_v2, gt_v3, gt_v4, gt_v5, gt_iret, gt_retz, bkX11_pendingFor_38, ka0_0, ra0_0_0, ka0_1, la0_1]
        obtain ⟨r_21, e_23, h⟩ := gw_bnd h
        refine ⟨rfl, 0, 0, hcc, hss, ok_X11_sinceOf hS0 e_23 ?_⟩
        simp -implicitDefEqProofs only [gt_nil, true_and, eq_self, gt_iret, gt_retz, Option.toList, List.cons_append, List.nil_append, Nat.add_zero, ka0_0, ra0_0_0, ka0_1, la0_1]
        obtain rfl := gw_inj1 h
        exact ⟨hcc, hss, hq⟩
      · replace h := gw_ifn h c_20
        refine hK _ _ _ _ _ _ _ ?_
        rw [fdX11_pendingFor_36]
        simp -implicitDefEqProofs only [gt_nil, true_and, eq_self, gt_iconst, gt_iret, gt_retz, bkX11_pendingFor_36, ka0_0, ra0_0_0, ka0_1, la0_1]
        obtain rfl := gw_inj1 h
        exact ⟨hcc, hss, hq⟩
def F_X11_service (n0 : Nat) (a0 : Nat) (v1 : Int32) (μ : gw_M) : Option (Int32) := (F_X11_isGuest n0 v1 μ).bind (fun (r_1 : Int32) => (if r_1 = 0 then some (-1) else (F_X11_guestAt n0 a0 v1 μ).bind (fun (r_6 : Int32) => (if 0 ≤ (r_6 + (1 : Int32)) ∧ (r_6 + (1 : Int32)).toNatClampNeg < 20813 then some (μ (a0 + 1) (r_6 + (1 : Int32)).toNatClampNeg) else none))))
theorem ok_X11_service {l : Launch} {x : gw_C} {d : Nat} {S : gw_S} {Q : Option Value → gw_S → gw_M → Prop} {v1 : Int32} {a0 : Nat} {n0 : Nat} {μ : gw_M} {r} (hS0 : gw_sh S 11 a0) (h : F_X11_service n0 a0 v1 μ = some r) (hq : Q (some (.int r)) S μ) : gw_ok l x (d + 3) sgX11_service 0 0 [.ref a0, .int v1] S μ Q := by
  refine gw_ok_of stX11_service (lv0 := [.ref a0, .int v1]) (Nat.le_of_ble_eq_true rfl) rfl rfl ?_
  intro K hK
  have hcc : 0 ≤ 0 := Nat.zero_le _
  have hss : 0 ≤ 0 := Nat.zero_le _
  have ka0_0 : gw_kd S a0 = 11 := (hS0 0 _ rfl).1
  have ra0_0_0 : gw_rf S a0 0 = a0 + 1 := (hS0 0 _ rfl).2.2 (0, 1) (by decide)
  have ka0_1 : gw_kd S (a0 + 1) = 12 := (hS0 1 _ rfl).1
  have la0_1 : gw_ln S (a0 + 1) = 20813 := (hS0 1 _ rfl).2.1
  unfold F_X11_service at h
  refine hK _ _ _ _ _ _ _ ?_
  rw [fdX11_service_0]
  simp only [gt_nil, true_and, eq_self, gt_iload_n, gt_ink, gw_nth, gt_s1_0, gt_s2_0, gt_s3_0, gt_s4_0, gt_s1_1, gt_s2_1, gt_s3_1, gt_s4_1, gt_acpy, gt_if, gt_aload_n, gt_rfk, gt_get_r, gt_get_i, gt_get_z, gt_v0, gt_v1, gt_v2, gt_v3, gt_v4, gt_v5, gt_iconst, gt_iadd, gt_iaload, gt_goto, bkX11_service_0, ka0_0, ra0_0_0, ka0_1, la0_1]
  obtain ⟨r_1, e_3, h⟩ := gw_bnd h
  refine ⟨rfl, 0, 0, hcc, hss, ok_X11_isGuest e_3 ?_⟩
  intro hbr_1
  simp only [gt_nil, true_and, eq_self, gt_if, gt_aload_n, gt_rfk, gw_nth, gt_get_r, gt_get_i, gt_get_z, gt_iload_n, gt_ink, gt_v0, gt_v1, gt_v2, gt_v3, gt_v4, gt_v5, gt_iconst, gt_iadd, gt_iaload, gt_goto, Option.toList, List.cons_append, List.nil_append, Nat.add_zero, ka0_0, ra0_0_0, ka0_1, la0_1]
  refine ⟨fun c_5 => ?_, fun c_5 => ?_⟩
  · replace h := gw_ifp h c_5
    refine hK _ _ _ _ _ _ _ ?_
    rw [fdX11_service_22]
    simp only [gt_nil, true_and, eq_self, gt_iconst, bkX11_service_22, ka0_0, ra0_0_0, ka0_1, la0_1]
    refine hK _ _ _ _ _ _ _ ?_
    rw [fdX11_service_23]
    simp only [gt_nil, true_and, eq_self, gt_iret, gt_retz, bkX11_service_23, ka0_0, ra0_0_0, ka0_1, la0_1]
    obtain rfl := gw_inj1 h
    exact ⟨hcc, hss, hq⟩
  · replace h := gw_ifn h c_5
    obtain ⟨r_6, e_8, h⟩ := gw_bnd h
    refine ⟨rfl, 0, 0, hcc, hss, ok_X11_guestAt hS0 e_8 ?_⟩
    simp only [gt_nil, true_and, eq_self, gt_iconst, gt_iadd, gt_iaload, gt_goto, Option.toList, List.cons_append, List.nil_append, Nat.add_zero, ka0_0, ra0_0_0, ka0_1, la0_1]
    obtain ⟨c_10, h⟩ := gw_ife h
    refine ⟨c_10, ?_⟩
    refine hK _ _ _ _ _ _ _ ?_
    rw [fdX11_service_23]
    simp only [gt_nil, true_and, eq_self, gt_iret, gt_retz, bkX11_service_23, ka0_0, ra0_0_0, ka0_1, la0_1]
    obtain rfl := gw_inj1 h
    exact ⟨hcc, hss, hq⟩
def F_X11_entriesFrom_30 (rec4 : Int32 → Int32 → Int32 → gw_M → Option (Int32)) (n0 : Nat) (a0 : Nat) (v1 : Int32) (v3 : Int32) (s0 : Int32) (s1 : Int32) (μ : gw_M) : Option (Int32) := gw_let ((s0 + s1)) (fun (w_1 : Int32) => gw_let (v3 + 1) (fun (w_2 : Int32) => rec4 v1 w_1 w_2 μ))
def F_X11_entriesFrom_4 (n0 : Nat) (a0 : Nat) : Nat → Int32 → Int32 → Int32 → gw_M → Option (Int32)
  | 0, _, _, _, _ => none
  | n + 1, v1, v2, v3, μ => (if 16 ≤ v3 then some v2 else (if 0 ≤ (v1 + ((2 : Int32) * v3)) ∧ (v1 + ((2 : Int32) * v3)).toNatClampNeg < 20813 then (if ¬ (μ (a0 + 1) (v1 + ((2 : Int32) * v3)).toNatClampNeg) = (-1) then F_X11_entriesFrom_30 (F_X11_entriesFrom_4 n0 a0 n) n0 a0 v1 v3 v2 1 μ else F_X11_entriesFrom_30 (F_X11_entriesFrom_4 n0 a0 n) n0 a0 v1 v3 v2 0 μ) else none))
def F_X11_entriesFrom (n0 : Nat) (a0 : Nat) (v1 : Int32) (μ : gw_M) : Option (Int32) := F_X11_entriesFrom_4 n0 a0 n0 v1 0 0 μ
theorem B_X11_entriesFrom_30 {l : Launch} {x : gw_C} {d : Nat} {S : gw_S} {Q : Option Value → gw_S → gw_M → Prop} {K : Nat → gw_Kt} {mc ms cc ss : Nat} (hcc : cc ≤ mc) (hss : ss ≤ ms) (hK : gw_cl l x (d + 0) mc ms bsX11_entriesFrom Q K) {a0 : Nat} (hS0 : gw_sh S 11 a0) {rec4 : Int32 → Int32 → Int32 → gw_M → Option (Int32)} (hrec4 : ∀ {v1 v2 v3} {μ : gw_M} {r}, rec4 v1 v2 v3 μ = some r → Q (some (.int r)) S μ → K 4 [.ref a0, .int v1, .int v2, .int v3] [] S μ cc ss) {n0 : Nat} {v1 v3 s0 s1} {u2 : Value} {μ : gw_M} {r} (h : F_X11_entriesFrom_30 rec4 n0 a0 v1 v3 s0 s1 μ = some r) (hq : Q (some (.int r)) S μ) : K 30 [.ref a0, .int v1, u2, .int v3] [.int s1, .int s0] S μ cc ss := by
  unfold F_X11_entriesFrom_30 at h
  refine hK _ _ _ _ _ _ _ ?_
  rw [fdX11_entriesFrom_30]
  simp only [gt_nil, true_and, eq_self, gt_iadd, gt_istore_n, gw_set, gt_iinc, gt_ink, gw_nth, gt_goto, bkX11_entriesFrom_30]
  obtain ⟨w_1, hw_1, h⟩ := gw_lt h
  try rw [← hw_1]
  obtain ⟨w_2, hw_2, h⟩ := gw_lt h
  try rw [← hw_2]
  exact hrec4 h hq
theorem B_X11_entriesFrom_4 {l : Launch} {x : gw_C} {d : Nat} {S : gw_S} {Q : Option Value → gw_S → gw_M → Prop} {K : Nat → gw_Kt} {mc ms cc ss : Nat} (hcc : cc ≤ mc) (hss : ss ≤ ms) (hK : gw_cl l x (d + 0) mc ms bsX11_entriesFrom Q K) {a0 : Nat} (hS0 : gw_sh S 11 a0) {n0 : Nat} : ∀ {n : Nat} {v1 v2 v3} {μ : gw_M} {r}, F_X11_entriesFrom_4 n0 a0 n v1 v2 v3 μ = some r → Q (some (.int r)) S μ → K 4 [.ref a0, .int v1, .int v2, .int v3] [] S μ cc ss := by
  have ka0_0 : gw_kd S a0 = 11 := (hS0 0 _ rfl).1
  have ra0_0_0 : gw_rf S a0 0 = a0 + 1 := (hS0 0 _ rfl).2.2 (0, 1) (by decide)
  have ka0_1 : gw_kd S (a0 + 1) = 12 := (hS0 1 _ rfl).1
  have la0_1 : gw_ln S (a0 + 1) = 20813 := (hS0 1 _ rfl).2.1
  intro n
  induction n with
  | zero => intro v1 v2 v3 μ r h hq; simp [F_X11_entriesFrom_4] at h
  | succ n ih =>
    intro v1 v2 v3 μ r h hq
    simp only [F_X11_entriesFrom_4] at h
    refine hK _ _ _ _ _ _ _ ?_
    rw [fdX11_entriesFrom_4]
    simp only [gt_nil, true_and, eq_self, gt_iload_n, gt_ink, gw_nth, gt_bipush, gt_icmp, gt_aload_n, gt_rfk, gt_get_r, gt_get_i, gt_get_z, gt_iconst, gt_imul, gt_iadd, gt_iaload, gt_goto, bkX11_entriesFrom_4, ka0_0, ra0_0_0, ka0_1, la0_1]
    refine ⟨fun c_1 => ?_, fun c_1 => ?_⟩
    · replace h := gw_ifp2 (gw_c2_ge _ _) h c_1
      refine hK _ _ _ _ _ _ _ ?_
      rw [fdX11_entriesFrom_38]
      simp only [gt_nil, true_and, eq_self, gt_iload_n, gt_ink, gw_nth, gt_iret, gt_retz, bkX11_entriesFrom_38, ka0_0, ra0_0_0, ka0_1, la0_1]
      obtain rfl := gw_inj1 h
      exact ⟨hcc, hss, hq⟩
    · replace h := gw_ifn2 (gw_c2_ge _ _) h c_1
      obtain ⟨c_2, h⟩ := gw_ife h
      refine ⟨c_2, ?_⟩
      refine ⟨fun c_3 => ?_, fun c_3 => ?_⟩
      · replace h := gw_ifp2 (gw_c2_ne _ _) h c_3
        refine hK _ _ _ _ _ _ _ ?_
        rw [fdX11_entriesFrom_29]
        simp only [gt_nil, true_and, eq_self, gt_iconst, bkX11_entriesFrom_29, ka0_0, ra0_0_0, ka0_1, la0_1]
        exact B_X11_entriesFrom_30 hcc hss hK hS0 ih h hq
      · replace h := gw_ifn2 (gw_c2_ne _ _) h c_3
        exact B_X11_entriesFrom_30 hcc hss hK hS0 ih h hq
theorem ok_X11_entriesFrom {l : Launch} {x : gw_C} {d : Nat} {S : gw_S} {Q : Option Value → gw_S → gw_M → Prop} {v1 : Int32} {a0 : Nat} {n0 : Nat} {μ : gw_M} {r} (hS0 : gw_sh S 11 a0) (h : F_X11_entriesFrom n0 a0 v1 μ = some r) (hq : Q (some (.int r)) S μ) : gw_ok l x (d + 1) sgX11_entriesFrom 0 0 [.ref a0, .int v1] S μ Q := by
  refine gw_ok_of stX11_entriesFrom (lv0 := [.ref a0, .int v1, .retAddr 0, .retAddr 0]) (Nat.le_of_ble_eq_true rfl) rfl rfl ?_
  intro K hK
  have hcc : 0 ≤ 0 := Nat.zero_le _
  have hss : 0 ≤ 0 := Nat.zero_le _
  unfold F_X11_entriesFrom at h
  refine hK _ _ _ _ _ _ _ ?_
  rw [fdX11_entriesFrom_0]
  simp only [gt_nil, true_and, eq_self, gt_iconst, gt_istore_n, gw_set, bkX11_entriesFrom_0]
  exact B_X11_entriesFrom_4 hcc hss hK hS0 h hq
def F_X11_putBy_76 (n0 : Nat) (a0 : Nat) (v2 : Int32) (v3 : Int32) (μ : gw_M) : Option (Int32) := (F_X11_entriesFrom n0 a0 ((v3 + (79 : Int32)) + ((32 : Int32) * v2)) μ).bind (fun (r_1 : Int32) => some r_1)
def F_X11_putBy (n0 : Nat) (a0 : Nat) (v1 : Int32) (v2 : Int32) (μ : gw_M) : Option (Int32) := (F_X11_isIn n0 v1 0 2 μ).bind (fun (r_1 : Int32) => (if r_1 = 0 then some (-1) else (if ¬ v1 = (μ (a0 + 1) 15) then gw_let (((58 : Int32) + ((162 : Int32) * ((1 : Int32) + v1)))) (fun (w_7 : Int32) => (if v2 = (0 : Int32) then F_X11_putBy_76 n0 a0 v2 w_7 μ else (if v2 = ((0 : Int32) + 1) then F_X11_putBy_76 n0 a0 v2 w_7 μ else (if v2 = (((0 : Int32) + 1) + 1) then (if 0 ≤ (w_7 + (5 : Int32)) ∧ (w_7 + (5 : Int32)).toNatClampNeg < 20813 then some (μ (a0 + 1) (w_7 + (5 : Int32)).toNatClampNeg) else none) else (if v2 = ((((0 : Int32) + 1) + 1) + 1) then (if 0 ≤ (w_7 + (0 : Int32)) ∧ (w_7 + (0 : Int32)).toNatClampNeg < 20813 then some (μ (a0 + 1) (w_7 + (0 : Int32)).toNatClampNeg) else none) else (if v2 = (((((0 : Int32) + 1) + 1) + 1) + 1) then (if 0 ≤ (w_7 + (1 : Int32)) ∧ (w_7 + (1 : Int32)).toNatClampNeg < 20813 then some (μ (a0 + 1) (w_7 + (1 : Int32)).toNatClampNeg) else none) else (if v2 = ((((((0 : Int32) + 1) + 1) + 1) + 1) + 1) then (if 0 ≤ (w_7 + (2 : Int32)) ∧ (w_7 + (2 : Int32)).toNatClampNeg < 20813 then some (μ (a0 + 1) (w_7 + (2 : Int32)).toNatClampNeg) else none) else (if v2 = (((((((0 : Int32) + 1) + 1) + 1) + 1) + 1) + 1) then (if 0 ≤ (w_7 + (6 : Int32)) ∧ (w_7 + (6 : Int32)).toNatClampNeg < 20813 then some (μ (a0 + 1) (w_7 + (6 : Int32)).toNatClampNeg) else none) else some (-1))))))))) else some (-1))))
theorem B_X11_putBy_76 {l : Launch} {x : gw_C} {d : Nat} {S : gw_S} {Q : Option Value → gw_S → gw_M → Prop} {K : Nat → gw_Kt} {mc ms cc ss : Nat} (hcc : cc ≤ mc) (hss : ss ≤ ms) (hK : gw_cl l x (d + 1) mc ms bsX11_putBy Q K) {a0 : Nat} (hS0 : gw_sh S 11 a0) {n0 : Nat} {v2 v3} {u1 : Value} {μ : gw_M} {r} (h : F_X11_putBy_76 n0 a0 v2 v3 μ = some r) (hq : Q (some (.int r)) S μ) : K 76 [.ref a0, u1, .int v2, .int v3] [] S μ cc ss := by
  have ka0_0 : gw_kd S a0 = 11 := (hS0 0 _ rfl).1
  unfold F_X11_putBy_76 at h
  refine hK _ _ _ _ _ _ _ ?_
  rw [fdX11_putBy_76]
  simp only [gt_nil, true_and, eq_self, gt_aload_n, gt_rfk, gw_nth, gt_iload_n, gt_ink, gt_bipush, gt_iadd, gt_imul, gt_v0, gt_v1, gt_v2, gt_v3, gt_v4, gt_v5, gt_iret, gt_retz, bkX11_putBy_76, ka0_0]
  obtain ⟨r_1, e_3, h⟩ := gw_bnd h
  refine ⟨rfl, 0, 0, hcc, hss, ok_X11_entriesFrom hS0 e_3 ?_⟩
  simp only [gt_nil, true_and, eq_self, gt_iret, gt_retz, Option.toList, List.cons_append, List.nil_append, Nat.add_zero, ka0_0]
  obtain rfl := gw_inj1 h
  exact ⟨hcc, hss, hq⟩
theorem ok_X11_putBy {l : Launch} {x : gw_C} {d : Nat} {S : gw_S} {Q : Option Value → gw_S → gw_M → Prop} {v1 v2 : Int32} {a0 : Nat} {n0 : Nat} {μ : gw_M} {r} (hS0 : gw_sh S 11 a0) (h : F_X11_putBy n0 a0 v1 v2 μ = some r) (hq : Q (some (.int r)) S μ) : gw_ok l x (d + 2) sgX11_putBy 0 0 [.ref a0, .int v1, .int v2] S μ Q := by
  refine gw_ok_of stX11_putBy (lv0 := [.ref a0, .int v1, .int v2, .retAddr 0]) (Nat.le_of_ble_eq_true rfl) rfl rfl ?_
  intro K hK
  have hcc : 0 ≤ 0 := Nat.zero_le _
  have hss : 0 ≤ 0 := Nat.zero_le _
  have ka0_0 : gw_kd S a0 = 11 := (hS0 0 _ rfl).1
  have ra0_0_0 : gw_rf S a0 0 = a0 + 1 := (hS0 0 _ rfl).2.2 (0, 1) (by decide)
  have ka0_1 : gw_kd S (a0 + 1) = 12 := (hS0 1 _ rfl).1
  have la0_1 : gw_ln S (a0 + 1) = 20813 := (hS0 1 _ rfl).2.1
  unfold F_X11_putBy at h
  refine hK _ _ _ _ _ _ _ ?_
  rw [fdX11_putBy_0]
  simp only [gt_nil, true_and, eq_self, gt_iload_n, gt_ink, gw_nth, gt_iconst, gt_s1_0, gt_s2_0, gt_s3_0, gt_s4_0, gt_s1_1, gt_s2_1, gt_s3_1, gt_s4_1, gt_acpy, gt_if, gt_aload_n, gt_rfk, gt_get_r, gt_get_i, gt_get_z, gt_bipush, gt_iaload, gt_icmp, bkX11_putBy_0, ka0_0, ra0_0_0, ka0_1, la0_1, (show Int32.toNatClampNeg 15 = 15 from rfl)]
  obtain ⟨r_1, e_3, h⟩ := gw_bnd h
  refine ⟨rfl, 0, 0, hcc, hss, ok_X11_isIn e_3 ?_⟩
  intro hbr_1
  simp only [gt_nil, true_and, eq_self, gt_if, gt_iload_n, gt_ink, gw_nth, gt_aload_n, gt_rfk, gt_get_r, gt_get_i, gt_get_z, gt_bipush, gt_iaload, gt_icmp, Option.toList, List.cons_append, List.nil_append, Nat.add_zero, ka0_0, ra0_0_0, ka0_1, la0_1, (show Int32.toNatClampNeg 15 = 15 from rfl)]
  refine ⟨fun c_5 => ?_, fun c_5 => ?_⟩
  · replace h := gw_ifp h c_5
    refine hK _ _ _ _ _ _ _ ?_
    rw [fdX11_putBy_20]
    simp only [gt_nil, true_and, eq_self, gt_iconst, gt_iret, gt_retz, bkX11_putBy_20, ka0_0, ra0_0_0, ka0_1, la0_1, (show Int32.toNatClampNeg 15 = 15 from rfl)]
    obtain rfl := gw_inj1 h
    exact ⟨hcc, hss, hq⟩
  · replace h := gw_ifn h c_5
    refine ⟨(⟨by decide, by decide⟩ : gw_in 15 20813), ?_⟩
    refine ⟨fun c_6 => ?_, fun c_6 => ?_⟩
    · replace h := gw_ifp2 (gw_c2_ne _ _) h c_6
      refine hK _ _ _ _ _ _ _ ?_
      rw [fdX11_putBy_22]
      simp only [gt_nil, true_and, eq_self, gt_bipush, gt_sipush, gt_iconst, gt_iload_n, gt_ink, gw_nth, gt_iadd, gt_imul, gt_istore_n, gw_set, gt_tsw, gw_sw, bkX11_putBy_22, ka0_0, ra0_0_0, ka0_1, la0_1, (show Int32.toNatClampNeg 15 = 15 from rfl)]
      obtain ⟨w_7, hw_7, h⟩ := gw_lt h
      try rw [← hw_7]
      refine ⟨fun c_8 => ?_, fun c_8 => ?_⟩
      · replace h := gw_ifp h c_8
        exact B_X11_putBy_76 hcc hss hK hS0 h hq
      replace h := gw_ifn h c_8
      refine ⟨fun c_9 => ?_, fun c_9 => ?_⟩
      · replace h := gw_ifp h c_9
        exact B_X11_putBy_76 hcc hss hK hS0 h hq
      replace h := gw_ifn h c_9
      refine ⟨fun c_10 => ?_, fun c_10 => ?_⟩
      · replace h := gw_ifp h c_10
        refine hK _ _ _ _ _ _ _ ?_
        rw [fdX11_putBy_90]
        simp only [gt_nil, true_and, eq_self, gt_aload_n, gt_rfk, gw_nth, gt_get_r, gt_get_i, gt_get_z, gt_iload_n, gt_ink, gt_iconst, gt_iadd, gt_iaload, gt_iret, gt_retz, bkX11_putBy_90, ka0_0, ra0_0_0, ka0_1, la0_1, (show Int32.toNatClampNeg 15 = 15 from rfl)]
        obtain ⟨c_11, h⟩ := gw_ife h
        refine ⟨c_11, ?_⟩
        obtain rfl := gw_inj1 h
        exact ⟨hcc, hss, hq⟩
      replace h := gw_ifn h c_10
      refine ⟨fun c_12 => ?_, fun c_12 => ?_⟩
      · replace h := gw_ifp h c_12
        refine hK _ _ _ _ _ _ _ ?_
        rw [fdX11_putBy_99]
        simp only [gt_nil, true_and, eq_self, gt_aload_n, gt_rfk, gw_nth, gt_get_r, gt_get_i, gt_get_z, gt_iload_n, gt_ink, gt_iconst, gt_iadd, gt_iaload, gt_iret, gt_retz, bkX11_putBy_99, ka0_0, ra0_0_0, ka0_1, la0_1, (show Int32.toNatClampNeg 15 = 15 from rfl)]
        obtain ⟨c_13, h⟩ := gw_ife h
        refine ⟨c_13, ?_⟩
        obtain rfl := gw_inj1 h
        exact ⟨hcc, hss, hq⟩
      replace h := gw_ifn h c_12
      refine ⟨fun c_14 => ?_, fun c_14 => ?_⟩
      · replace h := gw_ifp h c_14
        refine hK _ _ _ _ _ _ _ ?_
        rw [fdX11_putBy_108]
        simp only [gt_nil, true_and, eq_self, gt_aload_n, gt_rfk, gw_nth, gt_get_r, gt_get_i, gt_get_z, gt_iload_n, gt_ink, gt_iconst, gt_iadd, gt_iaload, gt_iret, gt_retz, bkX11_putBy_108, ka0_0, ra0_0_0, ka0_1, la0_1, (show Int32.toNatClampNeg 15 = 15 from rfl)]
        obtain ⟨c_15, h⟩ := gw_ife h
        refine ⟨c_15, ?_⟩
        obtain rfl := gw_inj1 h
        exact ⟨hcc, hss, hq⟩
      replace h := gw_ifn h c_14
      refine ⟨fun c_16 => ?_, fun c_16 => ?_⟩
      · replace h := gw_ifp h c_16
        refine hK _ _ _ _ _ _ _ ?_
        rw [fdX11_putBy_117]
        simp only [gt_nil, true_and, eq_self, gt_aload_n, gt_rfk, gw_nth, gt_get_r, gt_get_i, gt_get_z, gt_iload_n, gt_ink, gt_iconst, gt_iadd, gt_iaload, gt_iret, gt_retz, bkX11_putBy_117, ka0_0, ra0_0_0, ka0_1, la0_1, (show Int32.toNatClampNeg 15 = 15 from rfl)]
        obtain ⟨c_17, h⟩ := gw_ife h
        refine ⟨c_17, ?_⟩
        obtain rfl := gw_inj1 h
        exact ⟨hcc, hss, hq⟩
      replace h := gw_ifn h c_16
      refine ⟨fun c_18 => ?_, fun c_18 => ?_⟩
      · replace h := gw_ifp h c_18
        refine hK _ _ _ _ _ _ _ ?_
        rw [fdX11_putBy_126]
        simp only [gt_nil, true_and, eq_self, gt_aload_n, gt_rfk, gw_nth, gt_get_r, gt_get_i, gt_get_z, gt_iload_n, gt_ink, gt_bipush, gt_iadd, gt_iaload, gt_iret, gt_retz, bkX11_putBy_126, ka0_0, ra0_0_0, ka0_1, la0_1, (show Int32.toNatClampNeg 15 = 15 from rfl)]
        obtain ⟨c_19, h⟩ := gw_ife h
        refine ⟨c_19, ?_⟩
        obtain rfl := gw_inj1 h
        exact ⟨hcc, hss, hq⟩
      replace h := gw_ifn h c_18
      refine hK _ _ _ _ _ _ _ ?_
      rw [fdX11_putBy_136]
      simp only [gt_nil, true_and, eq_self, gt_iconst, gt_iret, gt_retz, bkX11_putBy_136, ka0_0, ra0_0_0, ka0_1, la0_1, (show Int32.toNatClampNeg 15 = 15 from rfl)]
      obtain rfl := gw_inj1 h
      exact ⟨hcc, hss, hq⟩
    · replace h := gw_ifn2 (gw_c2_ne _ _) h c_6
      refine hK _ _ _ _ _ _ _ ?_
      rw [fdX11_putBy_20]
      simp only [gt_nil, true_and, eq_self, gt_iconst, gt_iret, gt_retz, bkX11_putBy_20, ka0_0, ra0_0_0, ka0_1, la0_1, (show Int32.toNatClampNeg 15 = 15 from rfl)]
      obtain rfl := gw_inj1 h
      exact ⟨hcc, hss, hq⟩
def F_X11_isOpen_27 (n0 : Nat) (a0 : Nat) (μ : gw_M) : Option (Int32) := some 0
def F_X11_isOpen (n0 : Nat) (a0 : Nat) (v1 : Int32) (μ : gw_M) : Option (Int32) := (F_X11_isGuest n0 v1 μ).bind (fun (r_1 : Int32) => (if r_1 = 0 then F_X11_isOpen_27 n0 a0 μ else (F_X11_guestAt n0 a0 v1 μ).bind (fun (r_6 : Int32) => (if 0 ≤ (r_6 + (2 : Int32)) ∧ (r_6 + (2 : Int32)).toNatClampNeg < 20813 then (if ¬ (μ (a0 + 1) (r_6 + (2 : Int32)).toNatClampNeg) = 1 then F_X11_isOpen_27 n0 a0 μ else some 1) else none))))
theorem B_X11_isOpen_27 {l : Launch} {x : gw_C} {d : Nat} {S : gw_S} {Q : Option Value → gw_S → gw_M → Prop} {K : Nat → gw_Kt} {mc ms cc ss : Nat} (hcc : cc ≤ mc) (hss : ss ≤ ms) (hK : gw_cl l x (d + 2) mc ms bsX11_isOpen Q K) {a0 : Nat} (hS0 : gw_sh S 11 a0) {n0 : Nat}  {u1 : Value} {μ : gw_M} {r} (h : F_X11_isOpen_27 n0 a0 μ = some r) (hq : ((r = 0 ∨ r = 1) → Q (some (.int r)) S μ)) : K 27 [.ref a0, u1] [] S μ cc ss := by
  unfold F_X11_isOpen_27 at h
  refine hK _ _ _ _ _ _ _ ?_
  rw [fdX11_isOpen_27]
  simp only [gt_nil, true_and, eq_self, gt_iconst, bkX11_isOpen_27]
  refine hK _ _ _ _ _ _ _ ?_
  rw [fdX11_isOpen_28]
  simp only [gt_nil, true_and, eq_self, gt_iret, gt_retz, bkX11_isOpen_28]
  obtain rfl := gw_inj1 h
  exact ⟨(Or.inl rfl), hcc, hss, hq (Or.inl rfl)⟩
theorem ok_X11_isOpen {l : Launch} {x : gw_C} {d : Nat} {S : gw_S} {Q : Option Value → gw_S → gw_M → Prop} {v1 : Int32} {a0 : Nat} {n0 : Nat} {μ : gw_M} {r} (hS0 : gw_sh S 11 a0) (h : F_X11_isOpen n0 a0 v1 μ = some r) (hq : ((r = 0 ∨ r = 1) → Q (some (.int r)) S μ)) : gw_ok l x (d + 3) sgX11_isOpen 0 0 [.ref a0, .int v1] S μ Q := by
  refine gw_ok_of stX11_isOpen (lv0 := [.ref a0, .int v1]) (Nat.le_of_ble_eq_true rfl) rfl rfl ?_
  intro K hK
  have hcc : 0 ≤ 0 := Nat.zero_le _
  have hss : 0 ≤ 0 := Nat.zero_le _
  have ka0_0 : gw_kd S a0 = 11 := (hS0 0 _ rfl).1
  have ra0_0_0 : gw_rf S a0 0 = a0 + 1 := (hS0 0 _ rfl).2.2 (0, 1) (by decide)
  have ka0_1 : gw_kd S (a0 + 1) = 12 := (hS0 1 _ rfl).1
  have la0_1 : gw_ln S (a0 + 1) = 20813 := (hS0 1 _ rfl).2.1
  unfold F_X11_isOpen at h
  refine hK _ _ _ _ _ _ _ ?_
  rw [fdX11_isOpen_0]
  simp only [gt_nil, true_and, eq_self, gt_iload_n, gt_ink, gw_nth, gt_s1_0, gt_s2_0, gt_s3_0, gt_s4_0, gt_s1_1, gt_s2_1, gt_s3_1, gt_s4_1, gt_acpy, gt_if, gt_aload_n, gt_rfk, gt_get_r, gt_get_i, gt_get_z, gt_v0, gt_v1, gt_v2, gt_v3, gt_v4, gt_v5, gt_iconst, gt_iadd, gt_iaload, gt_icmp, gt_goto, bkX11_isOpen_0, ka0_0, ra0_0_0, ka0_1, la0_1]
  obtain ⟨r_1, e_3, h⟩ := gw_bnd h
  refine ⟨rfl, 0, 0, hcc, hss, ok_X11_isGuest e_3 ?_⟩
  intro hbr_1
  simp only [gt_nil, true_and, eq_self, gt_if, gt_aload_n, gt_rfk, gw_nth, gt_get_r, gt_get_i, gt_get_z, gt_iload_n, gt_ink, gt_v0, gt_v1, gt_v2, gt_v3, gt_v4, gt_v5, gt_iconst, gt_iadd, gt_iaload, gt_icmp, gt_goto, Option.toList, List.cons_append, List.nil_append, Nat.add_zero, ka0_0, ra0_0_0, ka0_1, la0_1]
  refine ⟨fun c_5 => ?_, fun c_5 => ?_⟩
  · replace h := gw_ifp h c_5
    exact B_X11_isOpen_27 hcc hss hK hS0 h hq
  · replace h := gw_ifn h c_5
    obtain ⟨r_6, e_8, h⟩ := gw_bnd h
    refine ⟨rfl, 0, 0, hcc, hss, ok_X11_guestAt hS0 e_8 ?_⟩
    simp only [gt_nil, true_and, eq_self, gt_iconst, gt_iadd, gt_iaload, gt_icmp, gt_goto, Option.toList, List.cons_append, List.nil_append, Nat.add_zero, ka0_0, ra0_0_0, ka0_1, la0_1]
    obtain ⟨c_10, h⟩ := gw_ife h
    refine ⟨c_10, ?_⟩
    refine ⟨fun c_11 => ?_, fun c_11 => ?_⟩
    · replace h := gw_ifp2 (gw_c2_ne _ _) h c_11
      exact B_X11_isOpen_27 hcc hss hK hS0 h hq
    · replace h := gw_ifn2 (gw_c2_ne _ _) h c_11
      refine hK _ _ _ _ _ _ _ ?_
      rw [fdX11_isOpen_28]
      simp only [gt_nil, true_and, eq_self, gt_iret, gt_retz, bkX11_isOpen_28, ka0_0, ra0_0_0, ka0_1, la0_1]
      obtain rfl := gw_inj1 h
      exact ⟨(Or.inr rfl), hcc, hss, hq (Or.inr rfl)⟩
def F_X11_taken (n0 : Nat) (a0 : Nat) (v1 : Int32) (μ : gw_M) : Option (Int32) := (F_X11_isGuest n0 v1 μ).bind (fun (r_1 : Int32) => (if r_1 = 0 then some (-1) else (if 0 ≤ (((19 : Int32) + v1) - (1 : Int32)) ∧ (((19 : Int32) + v1) - (1 : Int32)).toNatClampNeg < 20813 then some (μ (a0 + 1) (((19 : Int32) + v1) - (1 : Int32)).toNatClampNeg) else none)))
theorem ok_X11_taken {l : Launch} {x : gw_C} {d : Nat} {S : gw_S} {Q : Option Value → gw_S → gw_M → Prop} {v1 : Int32} {a0 : Nat} {n0 : Nat} {μ : gw_M} {r} (hS0 : gw_sh S 11 a0) (h : F_X11_taken n0 a0 v1 μ = some r) (hq : Q (some (.int r)) S μ) : gw_ok l x (d + 3) sgX11_taken 0 0 [.ref a0, .int v1] S μ Q := by
  refine gw_ok_of stX11_taken (lv0 := [.ref a0, .int v1]) (Nat.le_of_ble_eq_true rfl) rfl rfl ?_
  intro K hK
  have hcc : 0 ≤ 0 := Nat.zero_le _
  have hss : 0 ≤ 0 := Nat.zero_le _
  have ka0_0 : gw_kd S a0 = 11 := (hS0 0 _ rfl).1
  have ra0_0_0 : gw_rf S a0 0 = a0 + 1 := (hS0 0 _ rfl).2.2 (0, 1) (by decide)
  have ka0_1 : gw_kd S (a0 + 1) = 12 := (hS0 1 _ rfl).1
  have la0_1 : gw_ln S (a0 + 1) = 20813 := (hS0 1 _ rfl).2.1
  unfold F_X11_taken at h
  refine hK _ _ _ _ _ _ _ ?_
  rw [fdX11_taken_0]
  simp only [gt_nil, true_and, eq_self, gt_iload_n, gt_ink, gw_nth, gt_s1_0, gt_s2_0, gt_s3_0, gt_s4_0, gt_s1_1, gt_s2_1, gt_s3_1, gt_s4_1, gt_acpy, gt_if, gt_aload_n, gt_rfk, gt_get_r, gt_get_i, gt_get_z, gt_bipush, gt_iadd, gt_iconst, gt_isub, gt_iaload, gt_goto, bkX11_taken_0, ka0_0, ra0_0_0, ka0_1, la0_1]
  obtain ⟨r_1, e_3, h⟩ := gw_bnd h
  refine ⟨rfl, 0, 0, hcc, hss, ok_X11_isGuest e_3 ?_⟩
  intro hbr_1
  simp only [gt_nil, true_and, eq_self, gt_if, gt_aload_n, gt_rfk, gw_nth, gt_get_r, gt_get_i, gt_get_z, gt_bipush, gt_iload_n, gt_ink, gt_iadd, gt_iconst, gt_isub, gt_iaload, gt_goto, Option.toList, List.cons_append, List.nil_append, Nat.add_zero, ka0_0, ra0_0_0, ka0_1, la0_1]
  refine ⟨fun c_5 => ?_, fun c_5 => ?_⟩
  · replace h := gw_ifp h c_5
    refine hK _ _ _ _ _ _ _ ?_
    rw [fdX11_taken_21]
    simp only [gt_nil, true_and, eq_self, gt_iconst, bkX11_taken_21, ka0_0, ra0_0_0, ka0_1, la0_1]
    refine hK _ _ _ _ _ _ _ ?_
    rw [fdX11_taken_22]
    simp only [gt_nil, true_and, eq_self, gt_iret, gt_retz, bkX11_taken_22, ka0_0, ra0_0_0, ka0_1, la0_1]
    obtain rfl := gw_inj1 h
    exact ⟨hcc, hss, hq⟩
  · replace h := gw_ifn h c_5
    obtain ⟨c_6, h⟩ := gw_ife h
    refine ⟨c_6, ?_⟩
    refine hK _ _ _ _ _ _ _ ?_
    rw [fdX11_taken_22]
    simp only [gt_nil, true_and, eq_self, gt_iret, gt_retz, bkX11_taken_22, ka0_0, ra0_0_0, ka0_1, la0_1]
    obtain rfl := gw_inj1 h
    exact ⟨hcc, hss, hq⟩
def F_X11_clock (n0 : Nat) (a0 : Nat) (v1 : Int32) (μ : gw_M) : Option (Int32) := (F_X11_isIn n0 v1 0 2 μ).bind (fun (r_1 : Int32) => (if r_1 = 0 then some (-1000000000) else (F_X11_clockAt n0 a0 v1 (μ (a0 + 1) 3) μ).bind (fun (r_6 : Int32) => some r_6)))
theorem ok_X11_clock {l : Launch} {x : gw_C} {d : Nat} {S : gw_S} {Q : Option Value → gw_S → gw_M → Prop} {v1 : Int32} {a0 : Nat} {n0 : Nat} {μ : gw_M} {r} (hS0 : gw_sh S 11 a0) (h : F_X11_clock n0 a0 v1 μ = some r) (hq : Q (some (.int r)) S μ) : gw_ok l x (d + 3) sgX11_clock 0 0 [.ref a0, .int v1] S μ Q := by
  refine gw_ok_of stX11_clock (lv0 := [.ref a0, .int v1]) (Nat.le_of_ble_eq_true rfl) rfl rfl ?_
  intro K hK
  have hcc : 0 ≤ 0 := Nat.zero_le _
  have hss : 0 ≤ 0 := Nat.zero_le _
  have ka0_0 : gw_kd S a0 = 11 := (hS0 0 _ rfl).1
  have ra0_0_0 : gw_rf S a0 0 = a0 + 1 := (hS0 0 _ rfl).2.2 (0, 1) (by decide)
  have ka0_1 : gw_kd S (a0 + 1) = 12 := (hS0 1 _ rfl).1
  have la0_1 : gw_ln S (a0 + 1) = 20813 := (hS0 1 _ rfl).2.1
  unfold F_X11_clock at h
  refine hK _ _ _ _ _ _ _ ?_
  rw [fdX11_clock_0]
  simp only [gt_nil, true_and, eq_self, gt_iload_n, gt_ink, gw_nth, gt_iconst, gt_s1_0, gt_s2_0, gt_s3_0, gt_s4_0, gt_s1_1, gt_s2_1, gt_s3_1, gt_s4_1, gt_acpy, gt_if, gt_aload_n, gt_rfk, gt_get_r, gt_get_i, gt_get_z, gt_iaload, gt_v0, gt_v1, gt_v2, gt_v3, gt_v4, gt_v5, gt_goto, bkX11_clock_0, ka0_0, ra0_0_0, ka0_1, la0_1, (show Int32.toNatClampNeg 3 = 3 from rfl)]
  obtain ⟨r_1, e_3, h⟩ := gw_bnd h
  refine ⟨rfl, 0, 0, hcc, hss, ok_X11_isIn e_3 ?_⟩
  intro hbr_1
  simp only [gt_nil, true_and, eq_self, gt_if, gt_aload_n, gt_rfk, gw_nth, gt_iload_n, gt_ink, gt_get_r, gt_get_i, gt_get_z, gt_iconst, gt_iaload, gt_v0, gt_v1, gt_v2, gt_v3, gt_v4, gt_v5, gt_goto, Option.toList, List.cons_append, List.nil_append, Nat.add_zero, ka0_0, ra0_0_0, ka0_1, la0_1, (show Int32.toNatClampNeg 3 = 3 from rfl)]
  refine ⟨fun c_5 => ?_, fun c_5 => ?_⟩
  · replace h := gw_ifp h c_5
    refine hK _ _ _ _ _ _ _ ?_
    rw [fdX11_clock_23]
    simp only [gt_nil, true_and, eq_self, gt_ldc_w, bkX11_clock_23, ka0_0, ra0_0_0, ka0_1, la0_1, (show Int32.toNatClampNeg 3 = 3 from rfl)]
    refine hK _ _ _ _ _ _ _ ?_
    rw [fdX11_clock_26]
    simp only [gt_nil, true_and, eq_self, gt_iret, gt_retz, bkX11_clock_26, ka0_0, ra0_0_0, ka0_1, la0_1, (show Int32.toNatClampNeg 3 = 3 from rfl)]
    obtain rfl := gw_inj1 h
    exact ⟨hcc, hss, hq⟩
  · replace h := gw_ifn h c_5
    refine ⟨(⟨by decide, by decide⟩ : gw_in 3 20813), ?_⟩
    obtain ⟨r_6, e_8, h⟩ := gw_bnd h
    refine ⟨rfl, 0, 0, hcc, hss, ok_X11_clockAt hS0 e_8 ?_⟩
    simp only [gt_nil, true_and, eq_self, gt_goto, Option.toList, List.cons_append, List.nil_append, Nat.add_zero, ka0_0, ra0_0_0, ka0_1, la0_1, (show Int32.toNatClampNeg 3 = 3 from rfl)]
    refine hK _ _ _ _ _ _ _ ?_
    rw [fdX11_clock_26]
    simp only [gt_nil, true_and, eq_self, gt_iret, gt_retz, bkX11_clock_26, ka0_0, ra0_0_0, ka0_1, la0_1, (show Int32.toNatClampNeg 3 = 3 from rfl)]
    obtain rfl := gw_inj1 h
    exact ⟨hcc, hss, hq⟩
def F_X11_dueOf_46 (rec13 : Int32 → Int32 → Int32 → gw_M → Option (Int32)) (n0 : Nat) (a0 : Nat) (v1 : Int32) (v2 : Int32) (v3 : Int32) (μ : gw_M) : Option (Int32) := rec13 v1 v2 v3 μ
def F_X11_dueOf_13 (n0 : Nat) (a0 : Nat) : Nat → Int32 → Int32 → Int32 → gw_M → Option (Int32)
  | 0, _, _, _, _ => none
  | n + 1, v1, v2, v3, μ => (if v3 ≤ v2 then (if v2 ≤ 99999 then some v2 else some (-1)) else gw_let (((v2 + v3) / (2 : Int32))) (fun (w_3 : Int32) => (F_X11_isDue n0 a0 v1 w_3 μ).bind (fun (r_4 : Int32) => (if r_4 = 0 then gw_let ((w_3 + (1 : Int32))) (fun (w_9 : Int32) => F_X11_dueOf_46 (F_X11_dueOf_13 n0 a0 n) n0 a0 v1 w_9 v3 μ) else F_X11_dueOf_46 (F_X11_dueOf_13 n0 a0 n) n0 a0 v1 v2 w_3 μ))))
def F_X11_dueOf (n0 : Nat) (a0 : Nat) (v1 : Int32) (μ : gw_M) : Option (Int32) := gw_let (((μ (a0 + 1) 3) + (1 : Int32))) (fun (w_1 : Int32) => F_X11_dueOf_13 n0 a0 n0 v1 w_1 100000 μ)
theorem B_X11_dueOf_46 {l : Launch} {x : gw_C} {d : Nat} {S : gw_S} {Q : Option Value → gw_S → gw_M → Prop} {K : Nat → gw_Kt} {mc ms cc ss : Nat} (hcc : cc ≤ mc) (hss : ss ≤ ms) (hK : gw_cl l x (d + 3) mc ms bsX11_dueOf Q K) {a0 : Nat} (hS0 : gw_sh S 11 a0) {rec13 : Int32 → Int32 → Int32 → gw_M → Option (Int32)} (hrec13 : ∀ {v1 v2 v3} {u4 : Value} {μ : gw_M} {r}, rec13 v1 v2 v3 μ = some r → Q (some (.int r)) S μ → K 13 [.ref a0, .int v1, .int v2, .int v3, u4] [] S μ cc ss) {n0 : Nat} {v1 v2 v3} {u4 : Value} {μ : gw_M} {r} (h : F_X11_dueOf_46 rec13 n0 a0 v1 v2 v3 μ = some r) (hq : Q (some (.int r)) S μ) : K 46 [.ref a0, .int v1, .int v2, .int v3, u4] [] S μ cc ss := by
  unfold F_X11_dueOf_46 at h
  refine hK _ _ _ _ _ _ _ ?_
  rw [fdX11_dueOf_46]
  simp only [gt_nil, true_and, eq_self, gt_goto, bkX11_dueOf_46]
  exact hrec13 h hq
theorem B_X11_dueOf_13 {l : Launch} {x : gw_C} {d : Nat} {S : gw_S} {Q : Option Value → gw_S → gw_M → Prop} {K : Nat → gw_Kt} {mc ms cc ss : Nat} (hcc : cc ≤ mc) (hss : ss ≤ ms) (hK : gw_cl l x (d + 3) mc ms bsX11_dueOf Q K) {a0 : Nat} (hS0 : gw_sh S 11 a0) {n0 : Nat} : ∀ {n : Nat} {v1 v2 v3} {u4 : Value} {μ : gw_M} {r}, F_X11_dueOf_13 n0 a0 n v1 v2 v3 μ = some r → Q (some (.int r)) S μ → K 13 [.ref a0, .int v1, .int v2, .int v3, u4] [] S μ cc ss := by
  have ka0_0 : gw_kd S a0 = 11 := (hS0 0 _ rfl).1
  intro n
  induction n with
  | zero => intro v1 v2 v3 u4 μ r h hq; simp [F_X11_dueOf_13] at h
  | succ n ih =>
    intro v1 v2 v3 u4 μ r h hq
    simp only [F_X11_dueOf_13] at h
    refine hK _ _ _ _ _ _ _ ?_
    rw [fdX11_dueOf_13]
    simp only [gt_nil, true_and, eq_self, gt_iload_n, gt_ink, gw_nth, gt_icmp, gt_iadd, gt_iconst, gt_idiv, gt_istore, gw_set, gt_aload_n, gt_rfk, gt_iload, gt_v0, gt_v1, gt_v2, gt_v3, gt_v4, gt_v5, gt_if, gt_istore_n, gt_goto, bkX11_dueOf_13, ka0_0]
    refine ⟨fun c_1 => ?_, fun c_1 => ?_⟩
    · replace h := gw_ifp2 (gw_c2_ge _ _) h c_1
      refine hK _ _ _ _ _ _ _ ?_
      rw [fdX11_dueOf_49]
      simp only [gt_nil, true_and, eq_self, gt_iload_n, gt_ink, gw_nth, gt_ldc, gt_icmp, gt_iconst, gt_goto, bkX11_dueOf_49, ka0_0]
      refine ⟨fun c_2 => ?_, fun c_2 => ?_⟩
      · replace h := gw_ifp2 (gw_c2_le _ _) h c_2
        refine hK _ _ _ _ _ _ _ ?_
        rw [fdX11_dueOf_59]
        simp only [gt_nil, true_and, eq_self, gt_iload_n, gt_ink, gw_nth, bkX11_dueOf_59, ka0_0]
        refine hK _ _ _ _ _ _ _ ?_
        rw [fdX11_dueOf_60]
        simp only [gt_nil, true_and, eq_self, gt_iret, gt_retz, bkX11_dueOf_60, ka0_0]
        obtain rfl := gw_inj1 h
        exact ⟨hcc, hss, hq⟩
      · replace h := gw_ifn2 (gw_c2_le _ _) h c_2
        refine hK _ _ _ _ _ _ _ ?_
        rw [fdX11_dueOf_60]
        simp only [gt_nil, true_and, eq_self, gt_iret, gt_retz, bkX11_dueOf_60, ka0_0]
        obtain rfl := gw_inj1 h
        exact ⟨hcc, hss, hq⟩
    · replace h := gw_ifn2 (gw_c2_ge _ _) h c_1
      refine ⟨by decide, ?_⟩
      obtain ⟨w_3, hw_3, h⟩ := gw_lt h
      try rw [← hw_3]
      obtain ⟨r_4, e_6, h⟩ := gw_bnd h
      refine ⟨rfl, 0, 0, hcc, hss, ok_X11_isDue hS0 e_6 ?_⟩
      intro hbr_4
      simp only [gt_nil, true_and, eq_self, gt_if, gt_iload, gt_ink, gw_nth, gt_istore_n, gw_set, gt_goto, Option.toList, List.cons_append, List.nil_append, Nat.add_zero, ka0_0]
      refine ⟨fun c_8 => ?_, fun c_8 => ?_⟩
      · replace h := gw_ifp h c_8
        refine hK _ _ _ _ _ _ _ ?_
        rw [fdX11_dueOf_41]
        simp only [gt_nil, true_and, eq_self, gt_iload, gt_ink, gw_nth, gt_iconst, gt_iadd, gt_istore_n, gw_set, bkX11_dueOf_41, ka0_0]
        obtain ⟨w_9, hw_9, h⟩ := gw_lt h
        try rw [← hw_9]
        exact B_X11_dueOf_46 hcc hss hK hS0 ih h hq
      · replace h := gw_ifn h c_8
        exact B_X11_dueOf_46 hcc hss hK hS0 ih h hq
theorem ok_X11_dueOf {l : Launch} {x : gw_C} {d : Nat} {S : gw_S} {Q : Option Value → gw_S → gw_M → Prop} {v1 : Int32} {a0 : Nat} {n0 : Nat} {μ : gw_M} {r} (hS0 : gw_sh S 11 a0) (h : F_X11_dueOf n0 a0 v1 μ = some r) (hq : Q (some (.int r)) S μ) : gw_ok l x (d + 4) sgX11_dueOf 0 0 [.ref a0, .int v1] S μ Q := by
  refine gw_ok_of stX11_dueOf (lv0 := [.ref a0, .int v1, .retAddr 0, .retAddr 0, .retAddr 0]) (Nat.le_of_ble_eq_true rfl) rfl rfl ?_
  intro K hK
  have hcc : 0 ≤ 0 := Nat.zero_le _
  have hss : 0 ≤ 0 := Nat.zero_le _
  have ka0_0 : gw_kd S a0 = 11 := (hS0 0 _ rfl).1
  have ra0_0_0 : gw_rf S a0 0 = a0 + 1 := (hS0 0 _ rfl).2.2 (0, 1) (by decide)
  have ka0_1 : gw_kd S (a0 + 1) = 12 := (hS0 1 _ rfl).1
  have la0_1 : gw_ln S (a0 + 1) = 20813 := (hS0 1 _ rfl).2.1
  unfold F_X11_dueOf at h
  refine hK _ _ _ _ _ _ _ ?_
  rw [fdX11_dueOf_0]
  simp only [gt_nil, true_and, eq_self, gt_aload_n, gt_rfk, gw_nth, gt_get_r, gt_get_i, gt_get_z, gt_iconst, gt_iaload, gt_iadd, gt_istore_n, gw_set, gt_ldc_w, bkX11_dueOf_0, ka0_0, ra0_0_0, ka0_1, la0_1, (show Int32.toNatClampNeg 3 = 3 from rfl)]
  refine ⟨(⟨by decide, by decide⟩ : gw_in 3 20813), ?_⟩
  obtain ⟨w_1, hw_1, h⟩ := gw_lt h
  try rw [← hw_1]
  exact B_X11_dueOf_13 hcc hss hK hS0 h hq
def F_X11_timed (n0 : Nat) (a0 : Nat) (v1 : Int32) (v2 : Int32) (μ : gw_M) : Option (Int32) := (if ¬ v1 = (-1) then (F_X11_isIn n0 v1 0 ((μ (a0 + 1) 26) - (1 : Int32)) μ).bind (fun (r_2 : Int32) => (if r_2 = 0 then some (-1000000000) else (F_X11_isIn n0 v2 0 3 μ).bind (fun (r_7 : Int32) => (if ¬ r_7 = 0 then (if ¬ v2 = 3 then (F_X11_ofTimer n0 a0 v1 v2 μ).bind (fun (r_13 : Int32) => some r_13) else (F_X11_dueOf n0 a0 v1 μ).bind (fun (r_17 : Int32) => some r_17)) else some (-1000000000))))) else some (μ (a0 + 1) 26))
theorem ok_X11_timed {l : Launch} {x : gw_C} {d : Nat} {S : gw_S} {Q : Option Value → gw_S → gw_M → Prop} {v1 v2 : Int32} {a0 : Nat} {n0 : Nat} {μ : gw_M} {r} (hS0 : gw_sh S 11 a0) (h : F_X11_timed n0 a0 v1 v2 μ = some r) (hq : Q (some (.int r)) S μ) : gw_ok l x (d + 5) sgX11_timed 0 0 [.ref a0, .int v1, .int v2] S μ Q := by
  refine gw_ok_of stX11_timed (lv0 := [.ref a0, .int v1, .int v2]) (Nat.le_of_ble_eq_true rfl) rfl rfl ?_
  intro K hK
  have hcc : 0 ≤ 0 := Nat.zero_le _
  have hss : 0 ≤ 0 := Nat.zero_le _
  have ka0_0 : gw_kd S a0 = 11 := (hS0 0 _ rfl).1
  have ra0_0_0 : gw_rf S a0 0 = a0 + 1 := (hS0 0 _ rfl).2.2 (0, 1) (by decide)
  have ka0_1 : gw_kd S (a0 + 1) = 12 := (hS0 1 _ rfl).1
  have la0_1 : gw_ln S (a0 + 1) = 20813 := (hS0 1 _ rfl).2.1
  unfold F_X11_timed at h
  refine hK _ _ _ _ _ _ _ ?_
  rw [fdX11_timed_0]
  simp only [gt_nil, true_and, eq_self, gt_iload_n, gt_ink, gw_nth, gt_iconst, gt_icmp, gt_aload_n, gt_rfk, gt_get_r, gt_get_i, gt_get_z, gt_bipush, gt_iaload, gt_iret, gt_retz, bkX11_timed_0, ka0_0, ra0_0_0, ka0_1, la0_1, (show Int32.toNatClampNeg 26 = 26 from rfl)]
  refine ⟨fun c_1 => ?_, fun c_1 => ?_⟩
  · replace h := gw_ifp2 (gw_c2_ne _ _) h c_1
    refine hK _ _ _ _ _ _ _ ?_
    rw [fdX11_timed_13]
    simp only [gt_nil, true_and, eq_self, gt_iload_n, gt_ink, gw_nth, gt_iconst, gt_aload_n, gt_rfk, gt_get_r, gt_get_i, gt_get_z, gt_bipush, gt_iaload, gt_isub, gt_s1_0, gt_s2_0, gt_s3_0, gt_s4_0, gt_s1_1, gt_s2_1, gt_s3_1, gt_s4_1, gt_acpy, gt_if, bkX11_timed_13, ka0_0, ra0_0_0, ka0_1, la0_1, (show Int32.toNatClampNeg 26 = 26 from rfl)]
    refine ⟨(⟨by decide, by decide⟩ : gw_in 26 20813), ?_⟩
    obtain ⟨r_2, e_4, h⟩ := gw_bnd h
    refine ⟨rfl, 0, 0, hcc, hss, ok_X11_isIn e_4 ?_⟩
    intro hbr_2
    simp only [gt_nil, true_and, eq_self, gt_if, gt_iload_n, gt_ink, gw_nth, gt_iconst, gt_s1_0, gt_s2_0, gt_s3_0, gt_s4_0, gt_s1_1, gt_s2_1, gt_s3_1, gt_s4_1, gt_acpy, Option.toList, List.cons_append, List.nil_append, Nat.add_zero, ka0_0, ra0_0_0, ka0_1, la0_1, (show Int32.toNatClampNeg 26 = 26 from rfl)]
    refine ⟨fun c_6 => ?_, fun c_6 => ?_⟩
    · replace h := gw_ifp h c_6
      refine hK _ _ _ _ _ _ _ ?_
      rw [fdX11_timed_39]
      simp only [gt_nil, true_and, eq_self, gt_ldc_w, gt_iret, gt_retz, bkX11_timed_39, ka0_0, ra0_0_0, ka0_1, la0_1, (show Int32.toNatClampNeg 26 = 26 from rfl)]
      obtain rfl := gw_inj1 h
      exact ⟨hcc, hss, hq⟩
    · replace h := gw_ifn h c_6
      obtain ⟨r_7, e_9, h⟩ := gw_bnd h
      refine ⟨rfl, 0, 0, hcc, hss, ok_X11_isIn e_9 ?_⟩
      intro hbr_7
      simp only [gt_nil, true_and, eq_self, gt_if, Option.toList, List.cons_append, List.nil_append, Nat.add_zero, ka0_0, ra0_0_0, ka0_1, la0_1, (show Int32.toNatClampNeg 26 = 26 from rfl)]
      refine ⟨fun c_11 => ?_, fun c_11 => ?_⟩
      · replace h := gw_ifp h c_11
        refine hK _ _ _ _ _ _ _ ?_
        rw [fdX11_timed_43]
        simp only [gt_nil, true_and, eq_self, gt_iload_n, gt_ink, gw_nth, gt_iconst, gt_icmp, gt_aload_n, gt_rfk, gt_v0, gt_v1, gt_v2, gt_v3, gt_v4, gt_v5, gt_goto, bkX11_timed_43, ka0_0, ra0_0_0, ka0_1, la0_1, (show Int32.toNatClampNeg 26 = 26 from rfl)]
        refine ⟨fun c_12 => ?_, fun c_12 => ?_⟩
        · replace h := gw_ifp2 (gw_c2_ne _ _) h c_12
          refine hK _ _ _ _ _ _ _ ?_
          rw [fdX11_timed_56]
          simp only [gt_nil, true_and, eq_self, gt_aload_n, gt_rfk, gw_nth, gt_iload_n, gt_ink, gt_v0, gt_v1, gt_v2, gt_v3, gt_v4, gt_v5, bkX11_timed_56, ka0_0, ra0_0_0, ka0_1, la0_1, (show Int32.toNatClampNeg 26 = 26 from rfl)]
          obtain ⟨r_13, e_15, h⟩ := gw_bnd h
          refine ⟨rfl, 0, 0, hcc, hss, ok_X11_ofTimer hS0 e_15 ?_⟩
          simp only [gt_nil, true_and, eq_self, Option.toList, List.cons_append, List.nil_append, Nat.add_zero, ka0_0, ra0_0_0, ka0_1, la0_1, (show Int32.toNatClampNeg 26 = 26 from rfl)]
          refine hK _ _ _ _ _ _ _ ?_
          rw [fdX11_timed_62]
          simp only [gt_nil, true_and, eq_self, gt_iret, gt_retz, bkX11_timed_62, ka0_0, ra0_0_0, ka0_1, la0_1, (show Int32.toNatClampNeg 26 = 26 from rfl)]
          obtain rfl := gw_inj1 h
          exact ⟨hcc, hss, hq⟩
        · replace h := gw_ifn2 (gw_c2_ne _ _) h c_12
          obtain ⟨r_17, e_19, h⟩ := gw_bnd h
          refine ⟨rfl, 0, 0, hcc, hss, ok_X11_dueOf hS0 e_19 ?_⟩
          simp only [gt_nil, true_and, eq_self, gt_goto, Option.toList, List.cons_append, List.nil_append, Nat.add_zero, ka0_0, ra0_0_0, ka0_1, la0_1, (show Int32.toNatClampNeg 26 = 26 from rfl)]
          refine hK _ _ _ _ _ _ _ ?_
          rw [fdX11_timed_62]
          simp only [gt_nil, true_and, eq_self, gt_iret, gt_retz, bkX11_timed_62, ka0_0, ra0_0_0, ka0_1, la0_1, (show Int32.toNatClampNeg 26 = 26 from rfl)]
          obtain rfl := gw_inj1 h
          exact ⟨hcc, hss, hq⟩
      · replace h := gw_ifn h c_11
        refine hK _ _ _ _ _ _ _ ?_
        rw [fdX11_timed_39]
        simp only [gt_nil, true_and, eq_self, gt_ldc_w, gt_iret, gt_retz, bkX11_timed_39, ka0_0, ra0_0_0, ka0_1, la0_1, (show Int32.toNatClampNeg 26 = 26 from rfl)]
        obtain rfl := gw_inj1 h
        exact ⟨hcc, hss, hq⟩
  · replace h := gw_ifn2 (gw_c2_ne _ _) h c_1
    refine ⟨(⟨by decide, by decide⟩ : gw_in 26 20813), ?_⟩
    obtain rfl := gw_inj1 h
    exact ⟨hcc, hss, hq⟩
def F_X11_first_69 (rec4 : Int32 → Int32 → gw_M → Option (Int32)) (n0 : Nat) (a0 : Nat) (v1 : Int32) (v2 : Int32) (μ : gw_M) : Option (Int32) := gw_let (v2 + 1) (fun (w_1 : Int32) => rec4 v1 w_1 μ)
def F_X11_first_67 (rec4 : Int32 → Int32 → gw_M → Option (Int32)) (n0 : Nat) (a0 : Nat) (v2 : Int32) (μ : gw_M) : Option (Int32) := F_X11_first_69 rec4 n0 a0 v2 v2 μ
def F_X11_first_4 (n0 : Nat) (a0 : Nat) : Nat → Int32 → Int32 → gw_M → Option (Int32)
  | 0, _, _, _ => none
  | n + 1, v1, v2, μ => (if (μ (a0 + 1) 26) ≤ v2 then some v1 else (F_X11_dueOf n0 a0 v2 μ).bind (fun (r_2 : Int32) => (if ¬ r_2 = (-1) then (if v1 = (-1) then F_X11_first_67 (F_X11_first_4 n0 a0 n) n0 a0 v2 μ else (F_X11_dueOf n0 a0 v2 μ).bind (fun (r_8 : Int32) => (F_X11_dueOf n0 a0 v1 μ).bind (fun (r_12 : Int32) => (if r_8 < r_12 then F_X11_first_67 (F_X11_first_4 n0 a0 n) n0 a0 v2 μ else (F_X11_dueOf n0 a0 v2 μ).bind (fun (r_17 : Int32) => (F_X11_dueOf n0 a0 v1 μ).bind (fun (r_21 : Int32) => (if ¬ r_17 = r_21 then F_X11_first_69 (F_X11_first_4 n0 a0 n) n0 a0 v1 v2 μ else (F_X11_isAhead n0 a0 v2 v1 μ).bind (fun (r_26 : Int32) => (if r_26 = 0 then F_X11_first_69 (F_X11_first_4 n0 a0 n) n0 a0 v1 v2 μ else F_X11_first_67 (F_X11_first_4 n0 a0 n) n0 a0 v2 μ))))))))) else F_X11_first_69 (F_X11_first_4 n0 a0 n) n0 a0 v1 v2 μ)))
def F_X11_first (n0 : Nat) (a0 : Nat) (μ : gw_M) : Option (Int32) := F_X11_first_4 n0 a0 n0 (-1) 0 μ
theorem B_X11_first_69 {l : Launch} {x : gw_C} {d : Nat} {S : gw_S} {Q : Option Value → gw_S → gw_M → Prop} {K : Nat → gw_Kt} {mc ms cc ss : Nat} (hcc : cc ≤ mc) (hss : ss ≤ ms) (hK : gw_cl l x (d + 4) mc ms bsX11_first Q K) {a0 : Nat} (hS0 : gw_sh S 11 a0) {rec4 : Int32 → Int32 → gw_M → Option (Int32)} (hrec4 : ∀ {v1 v2} {μ : gw_M} {r}, rec4 v1 v2 μ = some r → Q (some (.int r)) S μ → K 4 [.ref a0, .int v1, .int v2] [] S μ cc ss) {n0 : Nat} {v1 v2} {μ : gw_M} {r} (h : F_X11_first_69 rec4 n0 a0 v1 v2 μ = some r) (hq : Q (some (.int r)) S μ) : K 69 [.ref a0, .int v1, .int v2] [] S μ cc ss := by
  unfold F_X11_first_69 at h
  refine hK _ _ _ _ _ _ _ ?_
  rw [fdX11_first_69]
  simp only [gt_nil, true_and, eq_self, gt_iinc, gt_ink, gw_nth, gw_set, gt_goto, bkX11_first_69]
  obtain ⟨w_1, hw_1, h⟩ := gw_lt h
  try rw [← hw_1]
  exact hrec4 h hq
theorem B_X11_first_67 {l : Launch} {x : gw_C} {d : Nat} {S : gw_S} {Q : Option Value → gw_S → gw_M → Prop} {K : Nat → gw_Kt} {mc ms cc ss : Nat} (hcc : cc ≤ mc) (hss : ss ≤ ms) (hK : gw_cl l x (d + 4) mc ms bsX11_first Q K) {a0 : Nat} (hS0 : gw_sh S 11 a0) {rec4 : Int32 → Int32 → gw_M → Option (Int32)} (hrec4 : ∀ {v1 v2} {μ : gw_M} {r}, rec4 v1 v2 μ = some r → Q (some (.int r)) S μ → K 4 [.ref a0, .int v1, .int v2] [] S μ cc ss) {n0 : Nat} {v2} {u1 : Value} {μ : gw_M} {r} (h : F_X11_first_67 rec4 n0 a0 v2 μ = some r) (hq : Q (some (.int r)) S μ) : K 67 [.ref a0, u1, .int v2] [] S μ cc ss := by
  unfold F_X11_first_67 at h
  refine hK _ _ _ _ _ _ _ ?_
  rw [fdX11_first_67]
  simp only [gt_nil, true_and, eq_self, gt_iload_n, gt_ink, gw_nth, gt_istore_n, gw_set, bkX11_first_67]
  exact B_X11_first_69 hcc hss hK hS0 hrec4 h hq
theorem B_X11_first_4 {l : Launch} {x : gw_C} {d : Nat} {S : gw_S} {Q : Option Value → gw_S → gw_M → Prop} {K : Nat → gw_Kt} {mc ms cc ss : Nat} (hcc : cc ≤ mc) (hss : ss ≤ ms) (hK : gw_cl l x (d + 4) mc ms bsX11_first Q K) {a0 : Nat} (hS0 : gw_sh S 11 a0) {n0 : Nat} : ∀ {n : Nat} {v1 v2} {μ : gw_M} {r}, F_X11_first_4 n0 a0 n v1 v2 μ = some r → Q (some (.int r)) S μ → K 4 [.ref a0, .int v1, .int v2] [] S μ cc ss := by
  have ka0_0 : gw_kd S a0 = 11 := (hS0 0 _ rfl).1
  have ra0_0_0 : gw_rf S a0 0 = a0 + 1 := (hS0 0 _ rfl).2.2 (0, 1) (by decide)
  have ka0_1 : gw_kd S (a0 + 1) = 12 := (hS0 1 _ rfl).1
  have la0_1 : gw_ln S (a0 + 1) = 20813 := (hS0 1 _ rfl).2.1
  intro n
  induction n with
  | zero => intro v1 v2 μ r h hq; simp [F_X11_first_4] at h
  | succ n ih =>
    intro v1 v2 μ r h hq
    simp only [F_X11_first_4] at h
    refine hK _ _ _ _ _ _ _ ?_
    rw [fdX11_first_4]
    simp only [gt_nil, true_and, eq_self, gt_iload_n, gt_ink, gw_nth, gt_aload_n, gt_rfk, gt_get_r, gt_get_i, gt_get_z, gt_bipush, gt_iaload, gt_icmp, gt_v0, gt_v1, gt_v2, gt_v3, gt_v4, gt_v5, gt_iconst, gt_goto, bkX11_first_4, ka0_0, ra0_0_0, ka0_1, la0_1, (show Int32.toNatClampNeg 26 = 26 from rfl)]
    refine ⟨(⟨by decide, by decide⟩ : gw_in 26 20813), ?_⟩
    refine ⟨fun c_1 => ?_, fun c_1 => ?_⟩
    · replace h := gw_ifp2 (gw_c2_ge _ _) h c_1
      refine hK _ _ _ _ _ _ _ ?_
      rw [fdX11_first_75]
      simp only [gt_nil, true_and, eq_self, gt_iload_n, gt_ink, gw_nth, gt_iret, gt_retz, bkX11_first_75, ka0_0, ra0_0_0, ka0_1, la0_1, (show Int32.toNatClampNeg 26 = 26 from rfl)]
      obtain rfl := gw_inj1 h
      exact ⟨hcc, hss, hq⟩
    · replace h := gw_ifn2 (gw_c2_ge _ _) h c_1
      obtain ⟨r_2, e_4, h⟩ := gw_bnd h
      refine ⟨rfl, 0, 0, hcc, hss, ok_X11_dueOf hS0 e_4 ?_⟩
      simp only [gt_nil, true_and, eq_self, gt_iconst, gt_icmp, gt_goto, Option.toList, List.cons_append, List.nil_append, Nat.add_zero, ka0_0, ra0_0_0, ka0_1, la0_1, (show Int32.toNatClampNeg 26 = 26 from rfl)]
      refine ⟨fun c_6 => ?_, fun c_6 => ?_⟩
      · replace h := gw_ifp2 (gw_c2_ne _ _) h c_6
        refine hK _ _ _ _ _ _ _ ?_
        rw [fdX11_first_27]
        simp only [gt_nil, true_and, eq_self, gt_iload_n, gt_ink, gw_nth, gt_iconst, gt_icmp, gt_aload_n, gt_rfk, gt_v0, gt_v1, gt_v2, gt_v3, gt_v4, gt_v5, gt_if, bkX11_first_27, ka0_0, ra0_0_0, ka0_1, la0_1, (show Int32.toNatClampNeg 26 = 26 from rfl)]
        refine ⟨fun c_7 => ?_, fun c_7 => ?_⟩
        · replace h := gw_ifp2 (gw_c2_eq _ _) h c_7
          exact B_X11_first_67 hcc hss hK hS0 ih h hq
        · replace h := gw_ifn2 (gw_c2_eq _ _) h c_7
          obtain ⟨r_8, e_10, h⟩ := gw_bnd h
          refine ⟨rfl, 0, 0, hcc, hss, ok_X11_dueOf hS0 e_10 ?_⟩
          simp only [gt_nil, true_and, eq_self, gt_aload_n, gt_rfk, gw_nth, gt_iload_n, gt_ink, gt_v0, gt_v1, gt_v2, gt_v3, gt_v4, gt_v5, gt_icmp, gt_if, Option.toList, List.cons_append, List.nil_append, Nat.add_zero, ka0_0, ra0_0_0, ka0_1, la0_1, (show Int32.toNatClampNeg 26 = 26 from rfl)]
          obtain ⟨r_12, e_14, h⟩ := gw_bnd h
          refine ⟨rfl, 0, 0, hcc, hss, ok_X11_dueOf hS0 e_14 ?_⟩
          simp only [gt_nil, true_and, eq_self, gt_icmp, gt_aload_n, gt_rfk, gw_nth, gt_iload_n, gt_ink, gt_v0, gt_v1, gt_v2, gt_v3, gt_v4, gt_v5, gt_if, Option.toList, List.cons_append, List.nil_append, Nat.add_zero, ka0_0, ra0_0_0, ka0_1, la0_1, (show Int32.toNatClampNeg 26 = 26 from rfl)]
          refine ⟨fun c_16 => ?_, fun c_16 => ?_⟩
          · replace h := gw_ifp2 (gw_c2_lt _ _) h c_16
            exact B_X11_first_67 hcc hss hK hS0 ih h hq
          · replace h := gw_ifn2 (gw_c2_lt _ _) h c_16
            obtain ⟨r_17, e_19, h⟩ := gw_bnd h
            refine ⟨rfl, 0, 0, hcc, hss, ok_X11_dueOf hS0 e_19 ?_⟩
            simp only [gt_nil, true_and, eq_self, gt_aload_n, gt_rfk, gw_nth, gt_iload_n, gt_ink, gt_v0, gt_v1, gt_v2, gt_v3, gt_v4, gt_v5, gt_icmp, gt_if, Option.toList, List.cons_append, List.nil_append, Nat.add_zero, ka0_0, ra0_0_0, ka0_1, la0_1, (show Int32.toNatClampNeg 26 = 26 from rfl)]
            obtain ⟨r_21, e_23, h⟩ := gw_bnd h
            refine ⟨rfl, 0, 0, hcc, hss, ok_X11_dueOf hS0 e_23 ?_⟩
            simp only [gt_nil, true_and, eq_self, gt_icmp, gt_aload_n, gt_rfk, gw_nth, gt_iload_n, gt_ink, gt_v0, gt_v1, gt_v2, gt_v3, gt_v4, gt_v5, gt_if, Option.toList, List.cons_append, List.nil_append, Nat.add_zero, ka0_0, ra0_0_0, ka0_1, la0_1, (show Int32.toNatClampNeg 26 = 26 from rfl)]
            refine ⟨fun c_25 => ?_, fun c_25 => ?_⟩
            · replace h := gw_ifp2 (gw_c2_ne _ _) h c_25
              exact B_X11_first_69 hcc hss hK hS0 ih h hq
            · replace h := gw_ifn2 (gw_c2_ne _ _) h c_25
              obtain ⟨r_26, e_28, h⟩ := gw_bnd h
              refine ⟨rfl, 0, 0, hcc, hss, ok_X11_isAhead hS0 e_28 ?_⟩
              intro hbr_26
              simp only [gt_nil, true_and, eq_self, gt_if, Option.toList, List.cons_append, List.nil_append, Nat.add_zero, ka0_0, ra0_0_0, ka0_1, la0_1, (show Int32.toNatClampNeg 26 = 26 from rfl)]
              refine ⟨fun c_30 => ?_, fun c_30 => ?_⟩
              · replace h := gw_ifp h c_30
                exact B_X11_first_69 hcc hss hK hS0 ih h hq
              · replace h := gw_ifn h c_30
                exact B_X11_first_67 hcc hss hK hS0 ih h hq
      · replace h := gw_ifn2 (gw_c2_ne _ _) h c_6
        exact B_X11_first_69 hcc hss hK hS0 ih h hq
theorem ok_X11_first {l : Launch} {x : gw_C} {d : Nat} {S : gw_S} {Q : Option Value → gw_S → gw_M → Prop} {a0 : Nat} {n0 : Nat} {μ : gw_M} {r} (hS0 : gw_sh S 11 a0) (h : F_X11_first n0 a0 μ = some r) (hq : Q (some (.int r)) S μ) : gw_ok l x (d + 5) sgX11_first 0 0 [.ref a0] S μ Q := by
  refine gw_ok_of stX11_first (lv0 := [.ref a0, .retAddr 0, .retAddr 0]) (Nat.le_of_ble_eq_true rfl) rfl rfl ?_
  intro K hK
  have hcc : 0 ≤ 0 := Nat.zero_le _
  have hss : 0 ≤ 0 := Nat.zero_le _
  unfold F_X11_first at h
  refine hK _ _ _ _ _ _ _ ?_
  rw [fdX11_first_0]
  simp only [gt_nil, true_and, eq_self, gt_iconst, gt_istore_n, gw_set, bkX11_first_0]
  exact B_X11_first_4 hcc hss hK hS0 h hq
def F_X11_program_81 (n0 : Nat) (a0 : Nat) (μ : gw_M) : Option (Int32) := some (-2)
def F_X11_program (n0 : Nat) (a0 : Nat) (v1 : Int32) (v2 : Int32) (v3 : Int32) (μ : gw_M) : Option (Int32) := (F_X11_isGuest n0 v1 μ).bind (fun (r_1 : Int32) => (if ¬ r_1 = 0 then (F_X11_guestAt n0 a0 v1 μ).bind (fun (r_6 : Int32) => (if ¬ v2 = (-1) then (if 0 ≤ (r_6 + (6 : Int32)) ∧ (r_6 + (6 : Int32)).toNatClampNeg < 20813 then (F_X11_isIn n0 v2 0 ((μ (a0 + 1) (r_6 + (6 : Int32)).toNatClampNeg) - (1 : Int32)) μ).bind (fun (r_12 : Int32) => (if r_12 = 0 then F_X11_program_81 n0 a0 μ else (F_X11_isIn n0 v3 0 2 μ).bind (fun (r_17 : Int32) => (if r_17 = 0 then F_X11_program_81 n0 a0 μ else (if 0 ≤ (((r_6 + (7 : Int32)) + ((3 : Int32) * v2)) + v3) ∧ (((r_6 + (7 : Int32)) + ((3 : Int32) * v2)) + v3).toNatClampNeg < 20813 then some (μ (a0 + 1) (((r_6 + (7 : Int32)) + ((3 : Int32) * v2)) + v3).toNatClampNeg) else none))))) else none) else (if 0 ≤ (r_6 + (6 : Int32)) ∧ (r_6 + (6 : Int32)).toNatClampNeg < 20813 then some (μ (a0 + 1) (r_6 + (6 : Int32)).toNatClampNeg) else none))) else some (-2)))
theorem B_X11_program_81 {l : Launch} {x : gw_C} {d : Nat} {S : gw_S} {Q : Option Value → gw_S → gw_M → Prop} {K : Nat → gw_Kt} {mc ms cc ss : Nat} (hcc : cc ≤ mc) (hss : ss ≤ ms) (hK : gw_cl l x (d + 2) mc ms bsX11_program Q K) {a0 : Nat} (hS0 : gw_sh S 11 a0) {n0 : Nat}  {u1 u2 u3 u4 : Value} {μ : gw_M} {r} (h : F_X11_program_81 n0 a0 μ = some r) (hq : Q (some (.int r)) S μ) : K 81 [.ref a0, u1, u2, u3, u4] [] S μ cc ss := by
  unfold F_X11_program_81 at h
  refine hK _ _ _ _ _ _ _ ?_
  rw [fdX11_program_81]
  simp only [gt_nil, true_and, eq_self, gt_bipush, bkX11_program_81]
  refine hK _ _ _ _ _ _ _ ?_
  rw [fdX11_program_83]
  simp only [gt_nil, true_and, eq_self, gt_iret, gt_retz, bkX11_program_83]
  obtain rfl := gw_inj1 h
  exact ⟨hcc, hss, hq⟩
theorem ok_X11_program {l : Launch} {x : gw_C} {d : Nat} {S : gw_S} {Q : Option Value → gw_S → gw_M → Prop} {v1 v2 v3 : Int32} {a0 : Nat} {n0 : Nat} {μ : gw_M} {r} (hS0 : gw_sh S 11 a0) (h : F_X11_program n0 a0 v1 v2 v3 μ = some r) (hq : Q (some (.int r)) S μ) : gw_ok l x (d + 3) sgX11_program 0 0 [.ref a0, .int v1, .int v2, .int v3] S μ Q := by
  refine gw_ok_of stX11_program (lv0 := [.ref a0, .int v1, .int v2, .int v3, .retAddr 0]) (Nat.le_of_ble_eq_true rfl) rfl rfl ?_
  intro K hK
  have hcc : 0 ≤ 0 := Nat.zero_le _
  have hss : 0 ≤ 0 := Nat.zero_le _
  have ka0_0 : gw_kd S a0 = 11 := (hS0 0 _ rfl).1
  have ra0_0_0 : gw_rf S a0 0 = a0 + 1 := (hS0 0 _ rfl).2.2 (0, 1) (by decide)
  have ka0_1 : gw_kd S (a0 + 1) = 12 := (hS0 1 _ rfl).1
  have la0_1 : gw_ln S (a0 + 1) = 20813 := (hS0 1 _ rfl).2.1
  unfold F_X11_program at h
  refine hK _ _ _ _ _ _ _ ?_
  rw [fdX11_program_0]
  simp only [gt_nil, true_and, eq_self, gt_iload_n, gt_ink, gw_nth, gt_s1_0, gt_s2_0, gt_s3_0, gt_s4_0, gt_s1_1, gt_s2_1, gt_s3_1, gt_s4_1, gt_acpy, gt_if, gt_bipush, gt_iret, gt_retz, bkX11_program_0, ka0_0, ra0_0_0, ka0_1, la0_1]
  obtain ⟨r_1, e_3, h⟩ := gw_bnd h
  refine ⟨rfl, 0, 0, hcc, hss, ok_X11_isGuest e_3 ?_⟩
  intro hbr_1
  simp only [gt_nil, true_and, eq_self, gt_if, gt_bipush, gt_iret, gt_retz, Option.toList, List.cons_append, List.nil_append, Nat.add_zero, ka0_0, ra0_0_0, ka0_1, la0_1]
  refine ⟨fun c_5 => ?_, fun c_5 => ?_⟩
  · replace h := gw_ifp h c_5
    refine hK _ _ _ _ _ _ _ ?_
    rw [fdX11_program_10]
    simp only [gt_nil, true_and, eq_self, gt_aload_n, gt_rfk, gw_nth, gt_iload_n, gt_ink, gt_v0, gt_v1, gt_v2, gt_v3, gt_v4, gt_v5, gt_istore, gw_set, gt_iconst, gt_icmp, gt_get_r, gt_get_i, gt_get_z, gt_iload, gt_bipush, gt_iadd, gt_iaload, gt_iret, gt_retz, bkX11_program_10, ka0_0, ra0_0_0, ka0_1, la0_1]
    obtain ⟨r_6, e_8, h⟩ := gw_bnd h
    refine ⟨rfl, 0, 0, hcc, hss, ok_X11_guestAt hS0 e_8 ?_⟩
    simp only [gt_nil, true_and, eq_self, gt_istore, gw_set, gt_iload_n, gt_ink, gw_nth, gt_iconst, gt_icmp, gt_aload_n, gt_rfk, gt_get_r, gt_get_i, gt_get_z, gt_iload, gt_bipush, gt_iadd, gt_iaload, gt_iret, gt_retz, Option.toList, List.cons_append, List.nil_append, Nat.add_zero, ka0_0, ra0_0_0, ka0_1, la0_1]
    refine ⟨fun c_10 => ?_, fun c_10 => ?_⟩
    · replace h := gw_ifp2 (gw_c2_ne _ _) h c_10
      refine hK _ _ _ _ _ _ _ ?_
      rw [fdX11_program_33]
      simp only [gt_nil, true_and, eq_self, gt_iload_n, gt_ink, gw_nth, gt_iconst, gt_aload_n, gt_rfk, gt_get_r, gt_get_i, gt_get_z, gt_iload, gt_bipush, gt_iadd, gt_iaload, gt_isub, gt_s1_0, gt_s2_0, gt_s3_0, gt_s4_0, gt_s1_1, gt_s2_1, gt_s3_1, gt_s4_1, gt_acpy, gt_if, gt_imul, gt_goto, bkX11_program_33, ka0_0, ra0_0_0, ka0_1, la0_1]
      obtain ⟨c_11, h⟩ := gw_ife h
      refine ⟨c_11, ?_⟩
      obtain ⟨r_12, e_14, h⟩ := gw_bnd h
      refine ⟨rfl, 0, 0, hcc, hss, ok_X11_isIn e_14 ?_⟩
      intro hbr_12
      simp only [gt_nil, true_and, eq_self, gt_if, gt_iload_n, gt_ink, gw_nth, gt_iconst, gt_s1_0, gt_s2_0, gt_s3_0, gt_s4_0, gt_s1_1, gt_s2_1, gt_s3_1, gt_s4_1, gt_acpy, gt_aload_n, gt_rfk, gt_get_r, gt_get_i, gt_get_z, gt_iload, gt_bipush, gt_iadd, gt_imul, gt_iaload, gt_goto, Option.toList, List.cons_append, List.nil_append, Nat.add_zero, ka0_0, ra0_0_0, ka0_1, la0_1]
      refine ⟨fun c_16 => ?_, fun c_16 => ?_⟩
      · replace h := gw_ifp h c_16
        exact B_X11_program_81 hcc hss hK hS0 h hq
      · replace h := gw_ifn h c_16
        obtain ⟨r_17, e_19, h⟩ := gw_bnd h
        refine ⟨rfl, 0, 0, hcc, hss, ok_X11_isIn e_19 ?_⟩
        intro hbr_17
        simp only [gt_nil, true_and, eq_self, gt_if, gt_aload_n, gt_rfk, gw_nth, gt_get_r, gt_get_i, gt_get_z, gt_iload, gt_ink, gt_bipush, gt_iadd, gt_iconst, gt_iload_n, gt_imul, gt_iaload, gt_goto, Option.toList, List.cons_append, List.nil_append, Nat.add_zero, ka0_0, ra0_0_0, ka0_1, la0_1]
        refine ⟨fun c_21 => ?_, fun c_21 => ?_⟩
        · replace h := gw_ifp h c_21
          exact B_X11_program_81 hcc hss hK hS0 h hq
        · replace h := gw_ifn h c_21
          obtain ⟨c_22, h⟩ := gw_ife h
          refine ⟨c_22, ?_⟩
          refine hK _ _ _ _ _ _ _ ?_
          rw [fdX11_program_83]
          simp only [gt_nil, true_and, eq_self, gt_iret, gt_retz, bkX11_program_83, ka0_0, ra0_0_0, ka0_1, la0_1]
          obtain rfl := gw_inj1 h
          exact ⟨hcc, hss, hq⟩
    · replace h := gw_ifn2 (gw_c2_ne _ _) h c_10
      obtain ⟨c_23, h⟩ := gw_ife h
      refine ⟨c_23, ?_⟩
      obtain rfl := gw_inj1 h
      exact ⟨hcc, hss, hq⟩
  · replace h := gw_ifn h c_5
    obtain rfl := gw_inj1 h
    exact ⟨hcc, hss, hq⟩
def F_X11_foretold_19 (n0 : Nat) (a0 : Nat) : Nat → Int32 → Int32 → Int32 → gw_M → Option (Int32 × gw_M)
  | 0, _, _, _, _ => none
  | n + 1, v1, v2, v3, μ => (if v1 ≤ v3 then (F_X11_is n0 a0 v2 μ).bind (fun (r_2 : Int32) => (F_X11_bringBack n0 a0 μ).bind (fun (μ_7 : gw_M) => some (r_2, μ_7))) else (F_X11_goNow n0 a0 μ).bind (fun (μ_11 : gw_M) => gw_let (v3 + 1) (fun (w_14 : Int32) => F_X11_foretold_19 n0 a0 n v1 v2 w_14 μ_11)))
def F_X11_foretold (n0 : Nat) (a0 : Nat) (v1 : Int32) (v2 : Int32) (μ : gw_M) : Option (Int32 × gw_M) := (F_X11_canGo n0 a0 v1 200 μ).bind (fun (r_1 : Int32) => (if ¬ r_1 = 0 then (F_X11_putAside n0 a0 μ).bind (fun (μ_7 : gw_M) => F_X11_foretold_19 n0 a0 n0 v1 v2 0 μ_7) else some ((-1), μ)))
theorem B_X11_foretold_19 {l : Launch} {x : gw_C} {d : Nat} {S : gw_S} {Q : Option Value → gw_S → gw_M → Prop} {K : Nat → gw_Kt} {mc ms cc ss : Nat} (hcc : cc ≤ mc) (hss : ss ≤ ms) (hK : gw_cl l x (d + 13) mc ms bsX11_foretold Q K) {a0 : Nat} (hS0 : gw_sh S 11 a0) {n0 : Nat} : ∀ {n : Nat} {v1 v2 v3} {μ : gw_M} {r μ'}, F_X11_foretold_19 n0 a0 n v1 v2 v3 μ = some (r, μ') → Q (some (.int r)) S μ' → K 19 [.ref a0, .int v1, .int v2, .int v3] [] S μ cc ss := by
  have ka0_0 : gw_kd S a0 = 11 := (hS0 0 _ rfl).1
  intro n
  induction n with
  | zero => intro v1 v2 v3 μ r μ' h hq; simp [F_X11_foretold_19] at h
  | succ n ih =>
    intro v1 v2 v3 μ r μ' h hq
    simp only [F_X11_foretold_19] at h
    refine hK _ _ _ _ _ _ _ ?_
    rw [fdX11_foretold_19]
    simp only [gt_nil, true_and, eq_self, gt_iload_n, gt_ink, gw_nth, gt_icmp, gt_aload_n, gt_rfk, gt_v0, gt_v1, gt_v2, gt_v3, gt_v4, gt_v5, gt_iinc, gw_set, gt_goto, bkX11_foretold_19, ka0_0]
    refine ⟨fun c_1 => ?_, fun c_1 => ?_⟩
    · replace h := gw_ifp2 (gw_c2_ge _ _) h c_1
      refine hK _ _ _ _ _ _ _ ?_
      rw [fdX11_foretold_34]
      simp only [gt_nil, true_and, eq_self, gt_aload_n, gt_rfk, gw_nth, gt_iload_n, gt_ink, gt_v0, gt_v1, gt_v2, gt_v3, gt_v4, gt_v5, gt_istore_n, gw_set, gt_iret, gt_retz, bkX11_foretold_34, ka0_0]
      obtain ⟨r_2, e_4, h⟩ := gw_bnd h
      refine ⟨rfl, 0, 0, hcc, hss, ok_X11_is hS0 e_4 ?_⟩
      simp only [gt_nil, true_and, eq_self, gt_istore_n, gw_set, gt_aload_n, gt_rfk, gw_nth, gt_v0, gt_v1, gt_v2, gt_v3, gt_v4, gt_v5, gt_iload_n, gt_ink, gt_iret, gt_retz, Option.toList, List.cons_append, List.nil_append, Nat.add_zero, ka0_0]
      obtain ⟨μ_7, e_8, h⟩ := gw_bnd h
      refine ⟨rfl, 0, 0, hcc, hss, ok_X11_bringBack hS0 e_8 ?_⟩
      simp only [gt_nil, true_and, eq_self, gt_iload_n, gt_ink, gw_nth, gt_iret, gt_retz, Option.toList, List.cons_append, List.nil_append, Nat.add_zero, ka0_0]
      obtain ⟨rfl, rfl⟩ := gw_inj2 h
      exact ⟨hcc, hss, hq⟩
    · replace h := gw_ifn2 (gw_c2_ge _ _) h c_1
      obtain ⟨μ_11, e_12, h⟩ := gw_bnd h
      refine ⟨rfl, 0, 0, hcc, hss, ok_X11_goNow hS0 e_12 ?_⟩
      simp only [gt_nil, true_and, eq_self, gt_iinc, gt_ink, gw_nth, gw_set, gt_goto, Option.toList, List.cons_append, List.nil_append, Nat.add_zero, ka0_0]
      obtain ⟨w_14, hw_14, h⟩ := gw_lt h
      try rw [← hw_14]
      exact ih h hq
theorem ok_X11_foretold {l : Launch} {x : gw_C} {d : Nat} {S : gw_S} {Q : Option Value → gw_S → gw_M → Prop} {v1 v2 : Int32} {a0 : Nat} {n0 : Nat} {μ : gw_M} {r μ'} (hS0 : gw_sh S 11 a0) (h : F_X11_foretold n0 a0 v1 v2 μ = some (r, μ')) (hq : Q (some (.int r)) S μ') : gw_ok l x (d + 14) sgX11_foretold 0 0 [.ref a0, .int v1, .int v2] S μ Q := by
  refine gw_ok_of stX11_foretold (lv0 := [.ref a0, .int v1, .int v2, .retAddr 0]) (Nat.le_of_ble_eq_true rfl) rfl rfl ?_
  intro K hK
  have hcc : 0 ≤ 0 := Nat.zero_le _
  have hss : 0 ≤ 0 := Nat.zero_le _
  have ka0_0 : gw_kd S a0 = 11 := (hS0 0 _ rfl).1
  unfold F_X11_foretold at h
  refine hK _ _ _ _ _ _ _ ?_
  rw [fdX11_foretold_0]
  simp only [gt_nil, true_and, eq_self, gt_aload_n, gt_rfk, gw_nth, gt_iload_n, gt_ink, gt_sipush, gt_v0, gt_v1, gt_v2, gt_v3, gt_v4, gt_v5, gt_if, gt_iconst, gt_iret, gt_retz, bkX11_foretold_0, ka0_0]
  obtain ⟨r_1, e_3, h⟩ := gw_bnd h
  refine ⟨rfl, 0, 0, hcc, hss, ok_X11_canGo hS0 e_3 ?_⟩
  intro hbr_1
  simp only [gt_nil, true_and, eq_self, gt_if, gt_iconst, gt_iret, gt_retz, Option.toList, List.cons_append, List.nil_append, Nat.add_zero, ka0_0]
  refine ⟨fun c_5 => ?_, fun c_5 => ?_⟩
  · replace h := gw_ifp h c_5
    refine hK _ _ _ _ _ _ _ ?_
    rw [fdX11_foretold_13]
    simp only [gt_nil, true_and, eq_self, gt_aload_n, gt_rfk, gw_nth, gt_v0, gt_v1, gt_v2, gt_v3, gt_v4, gt_v5, gt_iconst, gt_istore_n, gw_set, bkX11_foretold_13, ka0_0]
    obtain ⟨μ_7, e_8, h⟩ := gw_bnd h
    refine ⟨rfl, 0, 0, hcc, hss, ok_X11_putAside hS0 e_8 ?_⟩
    simp only [gt_nil, true_and, eq_self, gt_iconst, gt_istore_n, gw_set, Option.toList, List.cons_append, List.nil_append, Nat.add_zero, ka0_0]
    exact B_X11_foretold_19 hcc hss hK hS0 h hq
  · replace h := gw_ifn h c_5
    obtain ⟨rfl, rfl⟩ := gw_inj2 h
    exact ⟨hcc, hss, hq⟩
