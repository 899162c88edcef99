def F_X10_handler (n0 : Nat) (a0 : Nat) (v1 : Int32) (v2 : Int32) (μ pu : gw_M) : Option (Int32 × gw_M × Bool) := (F_X10_mayHaveHandler n0 v1 μ).bind (fun (r_1 : Int32) => (if r_1 = 0 then some (0, μ, false) else (F_X10_within n0 v2 (-1) 23 μ).bind (fun (r_6 : Int32) => (if ¬ r_6 = 0 then (((if 0 ≤ v1 ∧ v1.toNatClampNeg < 10 then gw_let (gw_up pu (a0 + 21) v1.toNatClampNeg v2) (fun (μ_14 : gw_M) => (F_X3_dealOut n0 (a0 + 1) μ_14).bind (fun (μ_16 : gw_M) => some (1, μ_16))) else none)).map (fun (z : Int32 × gw_M) => (z.1, z.2, true))) else some (0, μ, false)))))
theorem ok_X10_handler {l : Launch} {x : gw_C} {d mc ms : Nat} {S Sp : gw_S} {Q : Option Value → gw_S → gw_M → Prop} {v1 v2 : Int32} {a0 n0 : Nat} {μ pu : gw_M} {r μ'} {b : Bool} (hmo : ∀ {c e : Nat}, gw_sh S c e → gw_sh Sp c e) (hpu : ∀ {Q1 : Option Value → gw_S → gw_M → Prop}, Q1 none Sp pu → gw_ok l x (d + 8) sgX5_push mc ms [.ref (a0 + 83), .ref (a0 + 1)] S μ Q1) (hS0 : gw_sh S 10 a0) (h : F_X10_handler n0 a0 v1 v2 μ pu = some (r, μ', b)) (hq : ((r = 0 ∨ r = 1) → Q (some (.int r)) (cond b Sp S) μ')) : gw_ok l x (d + 9) sgX10_handler mc ms [.ref a0, .int v1, .int v2] S μ Q := by
  refine gw_ok_of stX10_handler (lv0 := [.ref a0, .int v1, .int v2]) (Nat.le_of_ble_eq_true rfl) rfl rfl ?_
  intro K hK
  have hcc : 0 ≤ mc := Nat.zero_le _
  have hss : 0 ≤ ms := Nat.zero_le _
  have ka0_0 : gw_kd S a0 = 10 := (hS0 0 _ rfl).1
  have ra0_0_0 : gw_rf S a0 0 = a0 + 1 := (hS0 0 _ rfl).2.2 (0, 1) (by decide)
  have ra0_0_1 : gw_rf S a0 1 = a0 + 83 := (hS0 0 _ rfl).2.2 (1, 83) (by decide)
  have ka0_83 : gw_kd S (a0 + 83) = 5 := (hS0 83 _ rfl).1
  unfold F_X10_handler at h
  refine hK _ _ _ _ _ _ _ ?_
  rw [fdX10_handler_0]
  simp only [gt_nil, true_and, eq_self, gt_iload_n, gt_ink, gw_nth, gt_s1_0, gt_s2_0, gt_s3_0, gt_s4_0, gt_s1_1, gt_s2_1, gt_s3_1, gt_s4_1, gt_acpy, gt_if, gt_iconst, gt_bipush, bkX10_handler_0, ka0_0, ra0_0_0, ra0_0_1, ka0_83]
  obtain ⟨r_1, e_3, h⟩ := gw_bnd h
  refine ⟨rfl, 0, 0, hcc, hss, ok_X10_mayHaveHandler e_3 ?_⟩
  intro hbr_1
  simp only [gt_nil, true_and, eq_self, gt_if, gt_iload_n, gt_ink, gw_nth, gt_iconst, gt_bipush, gt_s1_0, gt_s2_0, gt_s3_0, gt_s4_0, gt_s1_1, gt_s2_1, gt_s3_1, gt_s4_1, gt_acpy, Option.toList, List.cons_append, List.nil_append, Nat.add_zero, ka0_0, ra0_0_0, ra0_0_1, ka0_83]
  refine ⟨fun c_5 => ?_, fun c_5 => ?_⟩
  · replace h := gw_ifp h c_5
    refine hK _ _ _ _ _ _ _ ?_
    rw [fdX10_handler_17]
    simp only [gt_nil, true_and, eq_self, gt_iconst, gt_iret, gt_retz, bkX10_handler_17, ka0_0, ra0_0_0, ra0_0_1, ka0_83]
    obtain ⟨rfl, rfl, rfl⟩ := gw_inj3 h
    exact ⟨(Or.inl rfl), hcc, hss, hq (Or.inl rfl)⟩
  · replace h := gw_ifn h c_5
    obtain ⟨r_6, e_8, h⟩ := gw_bnd h
    refine ⟨rfl, 0, 0, hcc, hss, ok_X10_within e_8 ?_⟩
    intro hbr_6
    simp only [gt_nil, true_and, eq_self, gt_if, Option.toList, List.cons_append, List.nil_append, Nat.add_zero, ka0_0, ra0_0_0, ra0_0_1, ka0_83]
    refine ⟨fun c_10 => ?_, fun c_10 => ?_⟩
    · replace h := gw_ifp h c_10
      refine hK _ _ _ _ _ _ _ ?_
      rw [fdX10_handler_19]
      simp only [gt_nil, true_and, eq_self, gt_aload_n, gt_rfk, gw_nth, gt_get_r, gt_get_i, gt_get_z, gt_v0, gt_v1, gt_v2, gt_v3, gt_v4, gt_v5, gt_iload_n, gt_ink, gt_iastore, gt_iconst, gt_iret, gt_retz, bkX10_handler_19, ka0_0, ra0_0_0, ra0_0_1, ka0_83]
      obtain ⟨⟨zr_11, zm_12⟩, h2, hz⟩ := gw_mp h
      clear h
      obtain ⟨rfl, rfl, rfl⟩ := gw_tup hz
      have h := h2
      replace hq : ((zr_11 = 0 ∨ zr_11 = 1) → Q (some (.int zr_11)) Sp zm_12) := hq
      refine ⟨rfl, mc, ms, Nat.le_of_eq (Nat.zero_add mc), Nat.le_of_eq (Nat.zero_add ms), hpu ?_⟩
      replace hcc : 0 + mc ≤ mc := Nat.le_of_eq (Nat.zero_add mc)
      replace hss : 0 + ms ≤ ms := Nat.le_of_eq (Nat.zero_add ms)
      have kpa0_0 : gw_kd Sp a0 = 10 := ((hmo hS0) 0 _ rfl).1
      have rpa0_0_0 : gw_rf Sp a0 0 = a0 + 1 := ((hmo hS0) 0 _ rfl).2.2 (0, 1) (by decide)
      have kpa0_1 : gw_kd Sp (a0 + 1) = 3 := ((hmo hS0) 1 _ rfl).1
      have rpa0_1_9 : gw_rf Sp (a0 + 1) 9 = a0 + 21 := ((hmo hS0) 1 _ rfl).2.2 (9, 21) (by decide)
      have kpa0_21 : gw_kd Sp (a0 + 21) = 12 := ((hmo hS0) 21 _ rfl).1
      have lpa0_21 : gw_ln Sp (a0 + 21) = 10 := ((hmo hS0) 21 _ rfl).2.1
      simp only [gt_nil, true_and, eq_self, gt_aload_n, gt_rfk, gw_nth, gt_get_r, gt_get_i, gt_get_z, gt_iload_n, gt_ink, gt_iastore, gt_v0, gt_v1, gt_v2, gt_v3, gt_v4, gt_v5, gt_iconst, gt_iret, gt_retz, Option.toList, List.cons_append, List.nil_append, Nat.add_zero, kpa0_0, rpa0_0_0, kpa0_1, rpa0_1_9, kpa0_21, lpa0_21]
      obtain ⟨c_13, h⟩ := gw_ife h
      refine ⟨c_13, ?_⟩
      obtain ⟨μ_14, hμ_14, h⟩ := gw_lt h
      try rw [← hμ_14]
      obtain ⟨μ_16, e_17, h⟩ := gw_bnd h
      refine ⟨rfl, 0, 0, hcc, hss, ok_X3_dealOut (gw_sub (hmo hS0) 3 1 (by decide +kernel)) e_17 ?_⟩
      simp only [gt_nil, true_and, eq_self, gt_iconst, gt_iret, gt_retz, Option.toList, List.cons_append, List.nil_append, Nat.add_zero, kpa0_0, rpa0_0_0, kpa0_1, rpa0_1_9, kpa0_21, lpa0_21]
      obtain ⟨rfl, rfl⟩ := gw_inj2 h
      exact ⟨(Or.inr rfl), hcc, hss, hq (Or.inr rfl)⟩
    · replace h := gw_ifn h c_10
      refine hK _ _ _ _ _ _ _ ?_
      rw [fdX10_handler_17]
      simp only [gt_nil, true_and, eq_self, gt_iconst, gt_iret, gt_retz, bkX10_handler_17, ka0_0, ra0_0_0, ra0_0_1, ka0_83]
      obtain ⟨rfl, rfl, rfl⟩ := gw_inj3 h
      exact ⟨(Or.inl rfl), hcc, hss, hq (Or.inl rfl)⟩
def F_X10_slice (n0 : Nat) (a0 : Nat) (v1 : Int32) (μ pu : gw_M) : Option (Int32 × gw_M × Bool) := (F_X10_within n0 v1 0 99 μ).bind (fun (r_1 : Int32) => (if ¬ r_1 = 0 then ((gw_let (gw_up pu (a0 + 1) 10 v1) (fun (μ_8 : gw_M) => (F_X3_dealOut n0 (a0 + 1) μ_8).bind (fun (μ_10 : gw_M) => some (1, μ_10)))).map (fun (z : Int32 × gw_M) => (z.1, z.2, true))) else some (0, μ, false)))
theorem ok_X10_slice {l : Launch} {x : gw_C} {d mc ms : Nat} {S Sp : gw_S} {Q : Option Value → gw_S → gw_M → Prop} {v1 : Int32} {a0 n0 : Nat} {μ pu : gw_M} {r μ'} {b : Bool} (hmo : ∀ {c e : Nat}, gw_sh S c e → gw_sh Sp c e) (hpu : ∀ {Q1 : Option Value → gw_S → gw_M → Prop}, Q1 none Sp pu → gw_ok l x (d + 8) sgX5_push mc ms [.ref (a0 + 83), .ref (a0 + 1)] S μ Q1) (hS0 : gw_sh S 10 a0) (h : F_X10_slice n0 a0 v1 μ pu = some (r, μ', b)) (hq : ((r = 0 ∨ r = 1) → Q (some (.int r)) (cond b Sp S) μ')) : gw_ok l x (d + 9) sgX10_slice mc ms [.ref a0, .int v1] S μ Q := by
  refine gw_ok_of stX10_slice (lv0 := [.ref a0, .int v1]) (Nat.le_of_ble_eq_true rfl) rfl rfl ?_
  intro K hK
  have hcc : 0 ≤ mc := Nat.zero_le _
  have hss : 0 ≤ ms := Nat.zero_le _
  have ka0_0 : gw_kd S a0 = 10 := (hS0 0 _ rfl).1
  have ra0_0_0 : gw_rf S a0 0 = a0 + 1 := (hS0 0 _ rfl).2.2 (0, 1) (by decide)
  have ra0_0_1 : gw_rf S a0 1 = a0 + 83 := (hS0 0 _ rfl).2.2 (1, 83) (by decide)
  have ka0_83 : gw_kd S (a0 + 83) = 5 := (hS0 83 _ rfl).1
  unfold F_X10_slice at h
  refine hK _ _ _ _ _ _ _ ?_
  rw [fdX10_slice_0]
  simp only [gt_nil, true_and, eq_self, gt_iload_n, gt_ink, gw_nth, gt_iconst, gt_bipush, gt_s1_0, gt_s2_0, gt_s3_0, gt_s4_0, gt_s1_1, gt_s2_1, gt_s3_1, gt_s4_1, gt_acpy, gt_if, gt_iret, gt_retz, bkX10_slice_0, ka0_0, ra0_0_0, ra0_0_1, ka0_83]
  obtain ⟨r_1, e_3, h⟩ := gw_bnd h
  refine ⟨rfl, 0, 0, hcc, hss, ok_X10_within e_3 ?_⟩
  intro hbr_1
  simp only [gt_nil, true_and, eq_self, gt_if, gt_iconst, gt_iret, gt_retz, Option.toList, List.cons_append, List.nil_append, Nat.add_zero, ka0_0, ra0_0_0, ra0_0_1, ka0_83]
  refine ⟨fun c_5 => ?_, fun c_5 => ?_⟩
  · replace h := gw_ifp h c_5
    refine hK _ _ _ _ _ _ _ ?_
    rw [fdX10_slice_12]
    simp only [gt_nil, true_and, eq_self, gt_aload_n, gt_rfk, gw_nth, gt_get_r, gt_get_i, gt_get_z, gt_v0, gt_v1, gt_v2, gt_v3, gt_v4, gt_v5, gt_iload_n, gt_ink, gt_put_i, gt_putz, gt_iconst, gt_iret, gt_retz, bkX10_slice_12, ka0_0, ra0_0_0, ra0_0_1, ka0_83]
    obtain ⟨⟨zr_6, zm_7⟩, h2, hz⟩ := gw_mp h
    clear h
    obtain ⟨rfl, rfl, rfl⟩ := gw_tup hz
    have h := h2
    replace hq : ((zr_6 = 0 ∨ zr_6 = 1) → Q (some (.int zr_6)) Sp zm_7) := hq
    refine ⟨rfl, mc, ms, Nat.le_of_eq (Nat.zero_add mc), Nat.le_of_eq (Nat.zero_add ms), hpu ?_⟩
    replace hcc : 0 + mc ≤ mc := Nat.le_of_eq (Nat.zero_add mc)
    replace hss : 0 + ms ≤ ms := Nat.le_of_eq (Nat.zero_add ms)
    have kpa0_0 : gw_kd Sp a0 = 10 := ((hmo hS0) 0 _ rfl).1
    have rpa0_0_0 : gw_rf Sp a0 0 = a0 + 1 := ((hmo hS0) 0 _ rfl).2.2 (0, 1) (by decide)
    have kpa0_1 : gw_kd Sp (a0 + 1) = 3 := ((hmo hS0) 1 _ rfl).1
    simp only [gt_nil, true_and, eq_self, gt_aload_n, gt_rfk, gw_nth, gt_get_r, gt_get_i, gt_get_z, gt_iload_n, gt_ink, gt_put_i, gt_putz, gt_v0, gt_v1, gt_v2, gt_v3, gt_v4, gt_v5, gt_iconst, gt_iret, gt_retz, Option.toList, List.cons_append, List.nil_append, Nat.add_zero, kpa0_0, rpa0_0_0, kpa0_1]
    obtain ⟨μ_8, hμ_8, h⟩ := gw_lt h
    try rw [← hμ_8]
    obtain ⟨μ_10, e_11, h⟩ := gw_bnd h
    refine ⟨rfl, 0, 0, hcc, hss, ok_X3_dealOut (gw_sub (hmo hS0) 3 1 (by decide +kernel)) e_11 ?_⟩
    simp only [gt_nil, true_and, eq_self, gt_iconst, gt_iret, gt_retz, Option.toList, List.cons_append, List.nil_append, Nat.add_zero, kpa0_0, rpa0_0_0, kpa0_1]
    obtain ⟨rfl, rfl⟩ := gw_inj2 h
    exact ⟨(Or.inr rfl), hcc, hss, hq (Or.inr rfl)⟩
  · replace h := gw_ifn h c_5
    obtain ⟨rfl, rfl, rfl⟩ := gw_inj3 h
    exact ⟨(Or.inl rfl), hcc, hss, hq (Or.inl rfl)⟩
def F_X10_forget (n0 : Nat) (a0 : Nat) (μ pu : gw_M) : Option (Int32 × gw_M × Bool) := (((F_J6_bitCount_0f7a4 n0 (pu (a0 + 2) 4) pu).bind (fun (r_3 : Int32) => gw_let (gw_up pu (a0 + 2) 4 0) (fun (μ_7 : gw_M) => (F_X3_dealOut n0 (a0 + 1) μ_7).bind (fun (μ_9 : gw_M) => some (r_3, μ_9))))).map (fun (z : Int32 × gw_M) => (z.1, z.2, true)))
theorem ok_X10_forget {l : Launch} {x : gw_C} {d mc ms : Nat} {S Sp : gw_S} {Q : Option Value → gw_S → gw_M → Prop} {a0 n0 : Nat} {μ pu : gw_M} {r μ'} {b : Bool} (hmo : ∀ {c e : Nat}, gw_sh S c e → gw_sh Sp c e) (hpu : ∀ {Q1 : Option Value → gw_S → gw_M → Prop}, Q1 none Sp pu → gw_ok l x (d + 8) sgX5_push mc ms [.ref (a0 + 83), .ref (a0 + 1)] S μ Q1) (hS0 : gw_sh S 10 a0) (h : F_X10_forget n0 a0 μ pu = some (r, μ', b)) (hq : Q (some (.int r)) (cond b Sp S) μ') : gw_ok l x (d + 9) sgX10_forget mc ms [.ref a0] S μ Q := by
  refine gw_ok_of stX10_forget (lv0 := [.ref a0, .retAddr 0]) (Nat.le_of_ble_eq_true rfl) rfl rfl ?_
  intro K hK
  have hcc : 0 ≤ mc := Nat.zero_le _
  have hss : 0 ≤ ms := Nat.zero_le _
  have ka0_0 : gw_kd S a0 = 10 := (hS0 0 _ rfl).1
  have ra0_0_0 : gw_rf S a0 0 = a0 + 1 := (hS0 0 _ rfl).2.2 (0, 1) (by decide)
  have ra0_0_1 : gw_rf S a0 1 = a0 + 83 := (hS0 0 _ rfl).2.2 (1, 83) (by decide)
  have ka0_83 : gw_kd S (a0 + 83) = 5 := (hS0 83 _ rfl).1
  unfold F_X10_forget at h
  refine hK _ _ _ _ _ _ _ ?_
  rw [fdX10_forget_0]
  simp only [gt_nil, true_and, eq_self, gt_aload_n, gt_rfk, gw_nth, gt_get_r, gt_get_i, gt_get_z, gt_v0, gt_v1, gt_v2, gt_v3, gt_v4, gt_v5, gt_s1_0, gt_s2_0, gt_s3_0, gt_s4_0, gt_s1_1, gt_s2_1, gt_s3_1, gt_s4_1, gt_acpy, gt_istore_n, gw_set, gt_iconst, gt_put_i, gt_putz, gt_iload_n, gt_ink, gt_iret, gt_retz, bkX10_forget_0, ka0_0, ra0_0_0, ra0_0_1, ka0_83]
  obtain ⟨⟨zr_1, zm_2⟩, h2, hz⟩ := gw_mp h
  clear h
  obtain ⟨rfl, rfl, rfl⟩ := gw_tup hz
  have h := h2
  replace hq : Q (some (.int zr_1)) Sp zm_2 := hq
  refine ⟨rfl, mc, ms, Nat.le_of_eq (Nat.zero_add mc), Nat.le_of_eq (Nat.zero_add ms), hpu ?_⟩
  replace hcc : 0 + mc ≤ mc := Nat.le_of_eq (Nat.zero_add mc)
  replace hss : 0 + ms ≤ ms := Nat.le_of_eq (Nat.zero_add ms)
  have kpa0_0 : gw_kd Sp a0 = 10 := ((hmo hS0) 0 _ rfl).1
  have rpa0_0_0 : gw_rf Sp a0 0 = a0 + 1 := ((hmo hS0) 0 _ rfl).2.2 (0, 1) (by decide)
  have kpa0_1 : gw_kd Sp (a0 + 1) = 3 := ((hmo hS0) 1 _ rfl).1
  have rpa0_1_0 : gw_rf Sp (a0 + 1) 0 = a0 + 2 := ((hmo hS0) 1 _ rfl).2.2 (0, 2) (by decide)
  have kpa0_2 : gw_kd Sp (a0 + 2) = 4 := ((hmo hS0) 2 _ rfl).1
  simp only [gt_nil, true_and, eq_self, gt_aload_n, gt_rfk, gw_nth, gt_get_r, gt_get_i, gt_get_z, gt_s1_0, gt_s2_0, gt_s3_0, gt_s4_0, gt_s1_1, gt_s2_1, gt_s3_1, gt_s4_1, gt_acpy, gt_istore_n, gw_set, gt_iconst, gt_put_i, gt_putz, gt_v0, gt_v1, gt_v2, gt_v3, gt_v4, gt_v5, gt_iload_n, gt_ink, gt_iret, gt_retz, Option.toList, List.cons_append, List.nil_append, Nat.add_zero, kpa0_0, rpa0_0_0, kpa0_1, rpa0_1_0, kpa0_2]
  obtain ⟨r_3, e_5, h⟩ := gw_bnd h
  refine ⟨rfl, 0, 0, hcc, hss, ok_J6_bitCount_0f7a4 e_5 ?_⟩
  simp only [gt_nil, true_and, eq_self, gt_istore_n, gw_set, gt_aload_n, gt_rfk, gw_nth, gt_get_r, gt_get_i, gt_get_z, gt_iconst, gt_put_i, gt_putz, gt_v0, gt_v1, gt_v2, gt_v3, gt_v4, gt_v5, gt_iload_n, gt_ink, gt_iret, gt_retz, Option.toList, List.cons_append, List.nil_append, Nat.add_zero, kpa0_0, rpa0_0_0, kpa0_1, rpa0_1_0, kpa0_2]
  obtain ⟨μ_7, hμ_7, h⟩ := gw_lt h
  try rw [← hμ_7]
  obtain ⟨μ_9, e_10, h⟩ := gw_bnd h
  refine ⟨rfl, 0, 0, hcc, hss, ok_X3_dealOut (gw_sub (hmo hS0) 3 1 (by decide +kernel)) e_10 ?_⟩
  simp only [gt_nil, true_and, eq_self, gt_iload_n, gt_ink, gw_nth, gt_iret, gt_retz, Option.toList, List.cons_append, List.nil_append, Nat.add_zero, kpa0_0, rpa0_0_0, kpa0_1, rpa0_1_0, kpa0_2]
  obtain ⟨rfl, rfl⟩ := gw_inj2 h
  exact ⟨hcc, hss, hq⟩
def F_X10_mayGo_28 (n0 : Nat) (a0 : Nat) (μ : gw_M) : Option (Int32) := some 0
def F_X10_mayGo (n0 : Nat) (a0 : Nat) (v1 : Int32) (v2 : Int32) (μ : gw_M) : Option (Int32) := (F_X10_within n0 v1 1 v2 μ).bind (fun (r_1 : Int32) => (if r_1 = 0 then F_X10_mayGo_28 n0 a0 μ else (if 99999 < ((μ (a0 + 1) 7) + v1) then F_X10_mayGo_28 n0 a0 μ else some 1)))
theorem B_X10_mayGo_28 {l : Launch} {x : gw_C} {d : Nat} {S : gw_S} {Q : Option Value → gw_S → gw_M → Prop} {K : Nat → gw_Kt} {mc ms cc ss : Nat} (hcc : cc ≤ mc) (hss : ss ≤ ms) (hK : gw_cl l x (d + 1) mc ms bsX10_mayGo Q K) {a0 : Nat} (hS0 : gw_sh S 10 a0) {n0 : Nat}  {u1 u2 : Value} {μ : gw_M} {r} (h : F_X10_mayGo_28 n0 a0 μ = some r) (hq : ((r = 0 ∨ r = 1) → Q (some (.int r)) S μ)) : K 28 [.ref a0, u1, u2] [] S μ cc ss := by
  unfold F_X10_mayGo_28 at h
  refine hK _ _ _ _ _ _ _ ?_
  rw [fdX10_mayGo_28]
  simp only [gt_nil, true_and, eq_self, gt_iconst, bkX10_mayGo_28]
  refine hK _ _ _ _ _ _ _ ?_
  rw [fdX10_mayGo_29]
  simp only [gt_nil, true_and, eq_self, gt_iret, gt_retz, bkX10_mayGo_29]
  obtain rfl := gw_inj1 h
  exact ⟨(Or.inl rfl), hcc, hss, hq (Or.inl rfl)⟩
theorem ok_X10_mayGo {l : Launch} {x : gw_C} {d : Nat} {S : gw_S} {Q : Option Value → gw_S → gw_M → Prop} {v1 v2 : Int32} {a0 : Nat} {n0 : Nat} {μ : gw_M} {r} (hS0 : gw_sh S 10 a0) (h : F_X10_mayGo n0 a0 v1 v2 μ = some r) (hq : ((r = 0 ∨ r = 1) → Q (some (.int r)) S μ)) : gw_ok l x (d + 2) sgX10_mayGo 0 0 [.ref a0, .int v1, .int v2] S μ Q := by
  refine gw_ok_of stX10_mayGo (lv0 := [.ref a0, .int v1, .int v2]) (Nat.le_of_ble_eq_true rfl) rfl rfl ?_
  intro K hK
  have hcc : 0 ≤ 0 := Nat.zero_le _
  have hss : 0 ≤ 0 := Nat.zero_le _
  have ka0_0 : gw_kd S a0 = 10 := (hS0 0 _ rfl).1
  have ra0_0_0 : gw_rf S a0 0 = a0 + 1 := (hS0 0 _ rfl).2.2 (0, 1) (by decide)
  have ka0_1 : gw_kd S (a0 + 1) = 3 := (hS0 1 _ rfl).1
  unfold F_X10_mayGo at h
  refine hK _ _ _ _ _ _ _ ?_
  rw [fdX10_mayGo_0]
  simp only [gt_nil, true_and, eq_self, gt_iload_n, gt_ink, gw_nth, gt_iconst, gt_s1_0, gt_s2_0, gt_s3_0, gt_s4_0, gt_s1_1, gt_s2_1, gt_s3_1, gt_s4_1, gt_acpy, gt_if, gt_aload_n, gt_rfk, gt_get_r, gt_get_i, gt_get_z, gt_iadd, gt_ldc_w, gt_icmp, gt_goto, bkX10_mayGo_0, ka0_0, ra0_0_0, ka0_1]
  obtain ⟨r_1, e_3, h⟩ := gw_bnd h
  refine ⟨rfl, 0, 0, hcc, hss, ok_X10_within e_3 ?_⟩
  intro hbr_1
  simp only [gt_nil, true_and, eq_self, gt_if, gt_aload_n, gt_rfk, gw_nth, gt_get_r, gt_get_i, gt_get_z, gt_iload_n, gt_ink, gt_iadd, gt_ldc_w, gt_icmp, gt_iconst, gt_goto, Option.toList, List.cons_append, List.nil_append, Nat.add_zero, ka0_0, ra0_0_0, ka0_1]
  refine ⟨fun c_5 => ?_, fun c_5 => ?_⟩
  · replace h := gw_ifp h c_5
    exact B_X10_mayGo_28 hcc hss hK hS0 h hq
  · replace h := gw_ifn h c_5
    refine ⟨fun c_6 => ?_, fun c_6 => ?_⟩
    · replace h := gw_ifp2 (gw_c2_gt _ _) h c_6
      exact B_X10_mayGo_28 hcc hss hK hS0 h hq
    · replace h := gw_ifn2 (gw_c2_gt _ _) h c_6
      refine hK _ _ _ _ _ _ _ ?_
      rw [fdX10_mayGo_29]
      simp only [gt_nil, true_and, eq_self, gt_iret, gt_retz, bkX10_mayGo_29, ka0_0, ra0_0_0, ka0_1]
      obtain rfl := gw_inj1 h
      exact ⟨(Or.inr rfl), hcc, hss, hq (Or.inr rfl)⟩
def F_X10_pass_28 (n0 : Nat) (a0 : Nat) : Nat → Int32 → Int32 → Int32 → gw_M → Option (Int32 × gw_M)
  | 0, _, _, _, _ => none
  | n + 1, v1, v2, v3, μ => (if v1 ≤ v3 then some (v2, μ) else (gw_bi (F_X3_timeGoesOn n0 (a0 + 1) μ) (fun (r_2 : Int32) (μ_3 : gw_M) => gw_let ((v2 + r_2)) (fun (w_6 : Int32) => (F_X3_dealOut n0 (a0 + 1) μ_3).bind (fun (μ_8 : gw_M) => gw_let (v3 + 1) (fun (w_11 : Int32) => F_X10_pass_28 n0 a0 n v1 w_6 w_11 μ_8))))))
def F_X10_pass (n0 : Nat) (a0 : Nat) (v1 : Int32) (μ pu : gw_M) : Option (Int32 × gw_M × Bool) := (F_X10_mayGo n0 a0 v1 200 μ).bind (fun (r_1 : Int32) => (if ¬ r_1 = 0 then ((F_X10_pass_28 n0 a0 n0 v1 0 0 pu).map (fun (z : Int32 × gw_M) => (z.1, z.2, true))) else some ((-1), μ, false)))
theorem B_X10_pass_28 {l : Launch} {x : gw_C} {d : Nat} {S : gw_S} {Q : Option Value → gw_S → gw_M → Prop} {K : Nat → gw_Kt} {mc ms cc ss : Nat} (hcc : cc ≤ mc) (hss : ss ≤ ms) (hK : gw_cl l x (d + 8) mc ms bsX10_pass Q K) {a0 : Nat} (hS0 : gw_sh S 10 a0) {n0 : Nat} : ∀ {n : Nat} {v1 v2 v3} {μ : gw_M} {r μ'}, F_X10_pass_28 n0 a0 n v1 v2 v3 μ = some (r, μ') → Q (some (.int r)) S μ' → K 28 [.ref a0, .int v1, .int v2, .int v3] [] S μ cc ss := by
  have ka0_0 : gw_kd S a0 = 10 := (hS0 0 _ rfl).1
  have ra0_0_0 : gw_rf S a0 0 = a0 + 1 := (hS0 0 _ rfl).2.2 (0, 1) (by decide)
  have ka0_1 : gw_kd S (a0 + 1) = 3 := (hS0 1 _ rfl).1
  intro n
  induction n with
  | zero => intro v1 v2 v3 μ r μ' h hq; simp [F_X10_pass_28] at h
  | succ n ih =>
    intro v1 v2 v3 μ r μ' h hq
    simp only [F_X10_pass_28] at h
    refine hK _ _ _ _ _ _ _ ?_
    rw [fdX10_pass_28]
    simp only [gt_nil, true_and, eq_self, gt_iload_n, gt_ink, gw_nth, gt_icmp, gt_aload_n, gt_rfk, gt_get_r, gt_get_i, gt_get_z, gt_v0, gt_v1, gt_v2, gt_v3, gt_v4, gt_v5, gt_iadd, gt_istore_n, gw_set, gt_iinc, gt_goto, bkX10_pass_28, ka0_0, ra0_0_0, ka0_1]
    refine ⟨fun c_1 => ?_, fun c_1 => ?_⟩
    · replace h := gw_ifp2 (gw_c2_ge _ _) h c_1
      refine hK _ _ _ _ _ _ _ ?_
      rw [fdX10_pass_56]
      simp only [gt_nil, true_and, eq_self, gt_iload_n, gt_ink, gw_nth, gt_iret, gt_retz, bkX10_pass_56, ka0_0, ra0_0_0, ka0_1]
      obtain ⟨rfl, rfl⟩ := gw_inj2 h
      exact ⟨hcc, hss, hq⟩
    · replace h := gw_ifn2 (gw_c2_ge _ _) h c_1
      obtain ⟨r_2, μ_3, e_4, h⟩ := gw_bnd2 h
      refine ⟨rfl, 0, 0, hcc, hss, ok_X3_timeGoesOn (gw_sub hS0 3 1 (by decide +kernel)) e_4 ?_⟩
      simp only [gt_nil, true_and, eq_self, gt_iadd, gt_istore_n, gw_set, gt_aload_n, gt_rfk, gw_nth, gt_get_r, gt_get_i, gt_get_z, gt_v0, gt_v1, gt_v2, gt_v3, gt_v4, gt_v5, gt_iinc, gt_ink, gt_goto, Option.toList, List.cons_append, List.nil_append, Nat.add_zero, ka0_0, ra0_0_0, ka0_1]
      obtain ⟨w_6, hw_6, h⟩ := gw_lt h
      try rw [← hw_6]
      obtain ⟨μ_8, e_9, h⟩ := gw_bnd h
      refine ⟨rfl, 0, 0, hcc, hss, ok_X3_dealOut (gw_sub hS0 3 1 (by decide +kernel)) e_9 ?_⟩
      simp only [gt_nil, true_and, eq_self, gt_iinc, gt_ink, gw_nth, gw_set, gt_goto, Option.toList, List.cons_append, List.nil_append, Nat.add_zero, ka0_0, ra0_0_0, ka0_1]
      obtain ⟨w_11, hw_11, h⟩ := gw_lt h
      try rw [← hw_11]
      exact ih h hq
theorem ok_X10_pass {l : Launch} {x : gw_C} {d mc ms : Nat} {S Sp : gw_S} {Q : Option Value → gw_S → gw_M → Prop} {v1 : Int32} {a0 n0 : Nat} {μ pu : gw_M} {r μ'} {b : Bool} (hmo : ∀ {c e : Nat}, gw_sh S c e → gw_sh Sp c e) (hpu : ∀ {Q1 : Option Value → gw_S → gw_M → Prop}, Q1 none Sp pu → gw_ok l x (d + 8) sgX5_push mc ms [.ref (a0 + 83), .ref (a0 + 1)] S μ Q1) (hS0 : gw_sh S 10 a0) (h : F_X10_pass n0 a0 v1 μ pu = some (r, μ', b)) (hq : Q (some (.int r)) (cond b Sp S) μ') : gw_ok l x (d + 9) sgX10_pass mc ms [.ref a0, .int v1] S μ Q := by
  refine gw_ok_of stX10_pass (lv0 := [.ref a0, .int v1, .retAddr 0, .retAddr 0]) (Nat.le_of_ble_eq_true rfl) rfl rfl ?_
  intro K hK
  have hcc : 0 ≤ mc := Nat.zero_le _
  have hss : 0 ≤ ms := Nat.zero_le _
  have ka0_0 : gw_kd S a0 = 10 := (hS0 0 _ rfl).1
  have ra0_0_0 : gw_rf S a0 0 = a0 + 1 := (hS0 0 _ rfl).2.2 (0, 1) (by decide)
  have ra0_0_1 : gw_rf S a0 1 = a0 + 83 := (hS0 0 _ rfl).2.2 (1, 83) (by decide)
  have ka0_83 : gw_kd S (a0 + 83) = 5 := (hS0 83 _ rfl).1
  unfold F_X10_pass at h
  refine hK _ _ _ _ _ _ _ ?_
  rw [fdX10_pass_0]
  simp only [gt_nil, true_and, eq_self, gt_aload_n, gt_rfk, gw_nth, gt_iload_n, gt_ink, gt_sipush, gt_v0, gt_v1, gt_v2, gt_v3, gt_v4, gt_v5, gt_if, gt_iconst, gt_iret, gt_retz, bkX10_pass_0, ka0_0, ra0_0_0, ra0_0_1, ka0_83]
  obtain ⟨r_1, e_3, h⟩ := gw_bnd h
  refine ⟨rfl, 0, 0, hcc, hss, ok_X10_mayGo hS0 e_3 ?_⟩
  intro hbr_1
  simp only [gt_nil, true_and, eq_self, gt_if, gt_iconst, gt_iret, gt_retz, Option.toList, List.cons_append, List.nil_append, Nat.add_zero, ka0_0, ra0_0_0, ra0_0_1, ka0_83]
  refine ⟨fun c_5 => ?_, fun c_5 => ?_⟩
  · replace h := gw_ifp h c_5
    refine hK _ _ _ _ _ _ _ ?_
    rw [fdX10_pass_13]
    simp only [gt_nil, true_and, eq_self, gt_aload_n, gt_rfk, gw_nth, gt_get_r, gt_get_i, gt_get_z, gt_v0, gt_v1, gt_v2, gt_v3, gt_v4, gt_v5, gt_iconst, gt_istore_n, gw_set, bkX10_pass_13, ka0_0, ra0_0_0, ra0_0_1, ka0_83]
    obtain ⟨⟨zr_6, zm_7⟩, h2, hz⟩ := gw_mp h
    clear h
    obtain ⟨rfl, rfl, rfl⟩ := gw_tup hz
    have h := h2
    replace hq : Q (some (.int zr_6)) Sp zm_7 := hq
    refine ⟨rfl, mc, ms, Nat.le_of_eq (Nat.zero_add mc), Nat.le_of_eq (Nat.zero_add ms), hpu ?_⟩
    replace hcc : 0 + mc ≤ mc := Nat.le_of_eq (Nat.zero_add mc)
    replace hss : 0 + ms ≤ ms := Nat.le_of_eq (Nat.zero_add ms)
    simp only [gt_nil, true_and, eq_self, gt_iconst, gt_istore_n, gw_set, Option.toList, List.cons_append, List.nil_append, Nat.add_zero]
    exact B_X10_pass_28 hcc hss hK (hmo hS0) h hq
  · replace h := gw_ifn h c_5
    obtain ⟨rfl, rfl, rfl⟩ := gw_inj3 h
    exact ⟨hcc, hss, hq⟩
def F_X10_mostOfA_84 (n0 : Nat) (v0 : Int32) (μ : gw_M) : Option (Int32) := (if ¬ v0 = 1 then some 0 else some 15)
def F_X10_mostOfA (n0 : Nat) (v0 : Int32) (v1 : Int32) (μ : gw_M) : Option (Int32) := (if v1 = (0 : Int32) then some 15 else (if v1 = ((0 : Int32) + 1) then some 15 else (if v1 = (((0 : Int32) + 1) + 1) then some 15 else (if v1 = ((((0 : Int32) + 1) + 1) + 1) then some 7 else (if v1 = (((((0 : Int32) + 1) + 1) + 1) + 1) then some 0 else (if v1 = ((((((0 : Int32) + 1) + 1) + 1) + 1) + 1) then some 0 else (if v1 = (((((((0 : Int32) + 1) + 1) + 1) + 1) + 1) + 1) then (if ¬ v0 = 2 then some 0 else some 15) else (if v1 = ((((((((0 : Int32) + 1) + 1) + 1) + 1) + 1) + 1) + 1) then F_X10_mostOfA_84 n0 v0 μ else (if v1 = (((((((((0 : Int32) + 1) + 1) + 1) + 1) + 1) + 1) + 1) + 1) then some 15 else (if v1 = ((((((((((0 : Int32) + 1) + 1) + 1) + 1) + 1) + 1) + 1) + 1) + 1) then F_X10_mostOfA_84 n0 v0 μ else (if v1 = (((((((((((0 : Int32) + 1) + 1) + 1) + 1) + 1) + 1) + 1) + 1) + 1) + 1) then (if ¬ v0 = 1 then some (-1) else some 0) else (if v1 = ((((((((((((0 : Int32) + 1) + 1) + 1) + 1) + 1) + 1) + 1) + 1) + 1) + 1) + 1) then (if ¬ v0 = 1 then some (-1) else some 2) else some (-1)))))))))))))
theorem B_X10_mostOfA_84 {l : Launch} {x : gw_C} {d : Nat} {S : gw_S} {Q : Option Value → gw_S → gw_M → Prop} {K : Nat → gw_Kt} {mc ms cc ss : Nat} (hcc : cc ≤ mc) (hss : ss ≤ ms) (hK : gw_cl l x (d + 0) mc ms bsX10_mostOfA Q K) {n0 : Nat} {v0} {u1 : Value} {μ : gw_M} {r} (h : F_X10_mostOfA_84 n0 v0 μ = some r) (hq : Q (some (.int r)) S μ) : K 84 [.int v0, u1] [] S μ cc ss := by
  unfold F_X10_mostOfA_84 at h
  refine hK _ _ _ _ _ _ _ ?_
  rw [fdX10_mostOfA_84]
  simp only [gt_nil, true_and, eq_self, gt_iload_n, gt_ink, gw_nth, gt_iconst, gt_icmp, gt_bipush, gt_goto, bkX10_mostOfA_84]
  refine ⟨fun c_1 => ?_, fun c_1 => ?_⟩
  · replace h := gw_ifp2 (gw_c2_ne _ _) h c_1
    refine hK _ _ _ _ _ _ _ ?_
    rw [fdX10_mostOfA_94]
    simp only [gt_nil, true_and, eq_self, gt_iconst, bkX10_mostOfA_94]
    refine hK _ _ _ _ _ _ _ ?_
    rw [fdX10_mostOfA_95]
    simp only [gt_nil, true_and, eq_self, gt_iret, gt_retz, bkX10_mostOfA_95]
    obtain rfl := gw_inj1 h
    exact ⟨hcc, hss, hq⟩
  · replace h := gw_ifn2 (gw_c2_ne _ _) h c_1
    refine hK _ _ _ _ _ _ _ ?_
    rw [fdX10_mostOfA_95]
    simp only [gt_nil, true_and, eq_self, gt_iret, gt_retz, bkX10_mostOfA_95]
    obtain rfl := gw_inj1 h
    exact ⟨hcc, hss, hq⟩
theorem ok_X10_mostOfA {l : Launch} {x : gw_C} {d : Nat} {S : gw_S} {Q : Option Value → gw_S → gw_M → Prop} {v0 v1 : Int32} {n0 : Nat} {μ : gw_M} {r} (h : F_X10_mostOfA n0 v0 v1 μ = some r) (hq : Q (some (.int r)) S μ) : gw_ok l x (d + 1) sgX10_mostOfA 0 0 [.int v0, .int v1] S μ Q := by
  refine gw_ok_of stX10_mostOfA (lv0 := [.int v0, .int v1]) (Nat.le_of_ble_eq_true rfl) rfl rfl ?_
  intro K hK
  have hcc : 0 ≤ 0 := Nat.zero_le _
  have hss : 0 ≤ 0 := Nat.zero_le _
  unfold F_X10_mostOfA at h
  refine hK _ _ _ _ _ _ _ ?_
  rw [fdX10_mostOfA_0]
  simp only [gt_nil, true_and, eq_self, gt_iload_n, gt_ink, gw_nth, gt_tsw, gw_sw, bkX10_mostOfA_0]
  refine ⟨fun c_1 => ?_, fun c_1 => ?_⟩
  · replace h := gw_ifp h c_1
    refine hK _ _ _ _ _ _ _ ?_
    rw [fdX10_mostOfA_64]
    simp only [gt_nil, true_and, eq_self, gt_bipush, gt_iret, gt_retz, bkX10_mostOfA_64]
    obtain rfl := gw_inj1 h
    exact ⟨hcc, hss, hq⟩
  replace h := gw_ifn h c_1
  refine ⟨fun c_2 => ?_, fun c_2 => ?_⟩
  · replace h := gw_ifp h c_2
    refine hK _ _ _ _ _ _ _ ?_
    rw [fdX10_mostOfA_64]
    simp only [gt_nil, true_and, eq_self, gt_bipush, gt_iret, gt_retz, bkX10_mostOfA_64]
    obtain rfl := gw_inj1 h
    exact ⟨hcc, hss, hq⟩
  replace h := gw_ifn h c_2
  refine ⟨fun c_3 => ?_, fun c_3 => ?_⟩
  · replace h := gw_ifp h c_3
    refine hK _ _ _ _ _ _ _ ?_
    rw [fdX10_mostOfA_64]
    simp only [gt_nil, true_and, eq_self, gt_bipush, gt_iret, gt_retz, bkX10_mostOfA_64]
    obtain rfl := gw_inj1 h
    exact ⟨hcc, hss, hq⟩
  replace h := gw_ifn h c_3
  refine ⟨fun c_4 => ?_, fun c_4 => ?_⟩
  · replace h := gw_ifp h c_4
    refine hK _ _ _ _ _ _ _ ?_
    rw [fdX10_mostOfA_67]
    simp only [gt_nil, true_and, eq_self, gt_bipush, gt_iret, gt_retz, bkX10_mostOfA_67]
    obtain rfl := gw_inj1 h
    exact ⟨hcc, hss, hq⟩
  replace h := gw_ifn h c_4
  refine ⟨fun c_5 => ?_, fun c_5 => ?_⟩
  · replace h := gw_ifp h c_5
    refine hK _ _ _ _ _ _ _ ?_
    rw [fdX10_mostOfA_70]
    simp only [gt_nil, true_and, eq_self, gt_iconst, gt_iret, gt_retz, bkX10_mostOfA_70]
    obtain rfl := gw_inj1 h
    exact ⟨hcc, hss, hq⟩
  replace h := gw_ifn h c_5
  refine ⟨fun c_6 => ?_, fun c_6 => ?_⟩
  · replace h := gw_ifp h c_6
    refine hK _ _ _ _ _ _ _ ?_
    rw [fdX10_mostOfA_70]
    simp only [gt_nil, true_and, eq_self, gt_iconst, gt_iret, gt_retz, bkX10_mostOfA_70]
    obtain rfl := gw_inj1 h
    exact ⟨hcc, hss, hq⟩
  replace h := gw_ifn h c_6
  refine ⟨fun c_7 => ?_, fun c_7 => ?_⟩
  · replace h := gw_ifp h c_7
    refine hK _ _ _ _ _ _ _ ?_
    rw [fdX10_mostOfA_72]
    simp only [gt_nil, true_and, eq_self, gt_iload_n, gt_ink, gw_nth, gt_iconst, gt_icmp, gt_bipush, gt_goto, bkX10_mostOfA_72]
    refine ⟨fun c_8 => ?_, fun c_8 => ?_⟩
    · replace h := gw_ifp2 (gw_c2_ne _ _) h c_8
      refine hK _ _ _ _ _ _ _ ?_
      rw [fdX10_mostOfA_82]
      simp only [gt_nil, true_and, eq_self, gt_iconst, bkX10_mostOfA_82]
      refine hK _ _ _ _ _ _ _ ?_
      rw [fdX10_mostOfA_83]
      simp only [gt_nil, true_and, eq_self, gt_iret, gt_retz, bkX10_mostOfA_83]
      obtain rfl := gw_inj1 h
      exact ⟨hcc, hss, hq⟩
    · replace h := gw_ifn2 (gw_c2_ne _ _) h c_8
      refine hK _ _ _ _ _ _ _ ?_
      rw [fdX10_mostOfA_83]
      simp only [gt_nil, true_and, eq_self, gt_iret, gt_retz, bkX10_mostOfA_83]
      obtain rfl := gw_inj1 h
      exact ⟨hcc, hss, hq⟩
  replace h := gw_ifn h c_7
  refine ⟨fun c_9 => ?_, fun c_9 => ?_⟩
  · replace h := gw_ifp h c_9
    exact B_X10_mostOfA_84 hcc hss hK h hq
  replace h := gw_ifn h c_9
  refine ⟨fun c_10 => ?_, fun c_10 => ?_⟩
  · replace h := gw_ifp h c_10
    refine hK _ _ _ _ _ _ _ ?_
    rw [fdX10_mostOfA_64]
    simp only [gt_nil, true_and, eq_self, gt_bipush, gt_iret, gt_retz, bkX10_mostOfA_64]
    obtain rfl := gw_inj1 h
    exact ⟨hcc, hss, hq⟩
  replace h := gw_ifn h c_10
  refine ⟨fun c_11 => ?_, fun c_11 => ?_⟩
  · replace h := gw_ifp h c_11
    exact B_X10_mostOfA_84 hcc hss hK h hq
  replace h := gw_ifn h c_11
  refine ⟨fun c_12 => ?_, fun c_12 => ?_⟩
  · replace h := gw_ifp h c_12
    refine hK _ _ _ _ _ _ _ ?_
    rw [fdX10_mostOfA_96]
    simp only [gt_nil, true_and, eq_self, gt_iload_n, gt_ink, gw_nth, gt_iconst, gt_icmp, gt_goto, bkX10_mostOfA_96]
    refine ⟨fun c_13 => ?_, fun c_13 => ?_⟩
    · replace h := gw_ifp2 (gw_c2_ne _ _) h c_13
      refine hK _ _ _ _ _ _ _ ?_
      rw [fdX10_mostOfA_105]
      simp only [gt_nil, true_and, eq_self, gt_iconst, bkX10_mostOfA_105]
      refine hK _ _ _ _ _ _ _ ?_
      rw [fdX10_mostOfA_106]
      simp only [gt_nil, true_and, eq_self, gt_iret, gt_retz, bkX10_mostOfA_106]
      obtain rfl := gw_inj1 h
      exact ⟨hcc, hss, hq⟩
    · replace h := gw_ifn2 (gw_c2_ne _ _) h c_13
      refine hK _ _ _ _ _ _ _ ?_
      rw [fdX10_mostOfA_106]
      simp only [gt_nil, true_and, eq_self, gt_iret, gt_retz, bkX10_mostOfA_106]
      obtain rfl := gw_inj1 h
      exact ⟨hcc, hss, hq⟩
  replace h := gw_ifn h c_12
  refine ⟨fun c_14 => ?_, fun c_14 => ?_⟩
  · replace h := gw_ifp h c_14
    refine hK _ _ _ _ _ _ _ ?_
    rw [fdX10_mostOfA_107]
    simp only [gt_nil, true_and, eq_self, gt_iload_n, gt_ink, gw_nth, gt_iconst, gt_icmp, gt_goto, bkX10_mostOfA_107]
    refine ⟨fun c_15 => ?_, fun c_15 => ?_⟩
    · replace h := gw_ifp2 (gw_c2_ne _ _) h c_15
      refine hK _ _ _ _ _ _ _ ?_
      rw [fdX10_mostOfA_116]
      simp only [gt_nil, true_and, eq_self, gt_iconst, bkX10_mostOfA_116]
      refine hK _ _ _ _ _ _ _ ?_
      rw [fdX10_mostOfA_117]
      simp only [gt_nil, true_and, eq_self, gt_iret, gt_retz, bkX10_mostOfA_117]
      obtain rfl := gw_inj1 h
      exact ⟨hcc, hss, hq⟩
    · replace h := gw_ifn2 (gw_c2_ne _ _) h c_15
      refine hK _ _ _ _ _ _ _ ?_
      rw [fdX10_mostOfA_117]
      simp only [gt_nil, true_and, eq_self, gt_iret, gt_retz, bkX10_mostOfA_117]
      obtain rfl := gw_inj1 h
      exact ⟨hcc, hss, hq⟩
  replace h := gw_ifn h c_14
  refine hK _ _ _ _ _ _ _ ?_
  rw [fdX10_mostOfA_118]
  simp only [gt_nil, true_and, eq_self, gt_iconst, gt_iret, gt_retz, bkX10_mostOfA_118]
  obtain rfl := gw_inj1 h
  exact ⟨hcc, hss, hq⟩
def F_X10_mostOfB_30 (n0 : Nat) (v1 : Int32) (s0 : Int32) (μ : gw_M) : Option (Int32) := (if ¬ v1 = 1 then (if s0 = 0 then some 0 else some 15) else some 9999)
def F_X10_mostOfB (n0 : Nat) (v0 : Int32) (v1 : Int32) (μ : gw_M) : Option (Int32) := (if ¬ v0 = 1 then (if ¬ v1 = 6 then F_X10_mostOfB_30 n0 v1 0 μ else F_X10_mostOfB_30 n0 v1 1 μ) else (if ¬ v1 = 7 then F_X10_mostOfB_30 n0 v1 0 μ else F_X10_mostOfB_30 n0 v1 1 μ))
theorem B_X10_mostOfB_30 {l : Launch} {x : gw_C} {d : Nat} {S : gw_S} {Q : Option Value → gw_S → gw_M → Prop} {K : Nat → gw_Kt} {mc ms cc ss : Nat} (hcc : cc ≤ mc) (hss : ss ≤ ms) (hK : gw_cl l x (d + 0) mc ms bsX10_mostOfB Q K) {n0 : Nat} {v1 s0} {u0 u2 : Value} {μ : gw_M} {r} (h : F_X10_mostOfB_30 n0 v1 s0 μ = some r) (hq : Q (some (.int r)) S μ) : K 30 [u0, .int v1, u2] [.int s0] S μ cc ss := by
  unfold F_X10_mostOfB_30 at h
  refine hK _ _ _ _ _ _ _ ?_
  rw [fdX10_mostOfB_30]
  simp only [gt_nil, true_and, eq_self, gt_istore_n, gw_set, gt_iload_n, gt_ink, gw_nth, gt_iconst, gt_icmp, gt_sipush, gt_iret, gt_retz, bkX10_mostOfB_30]
  refine ⟨fun c_1 => ?_, fun c_1 => ?_⟩
  · replace h := gw_ifp2 (gw_c2_ne _ _) h c_1
    refine hK _ _ _ _ _ _ _ ?_
    rw [fdX10_mostOfB_40]
    simp only [gt_nil, true_and, eq_self, gt_iload_n, gt_ink, gw_nth, gt_if, gt_bipush, gt_goto, bkX10_mostOfB_40]
    refine ⟨fun c_2 => ?_, fun c_2 => ?_⟩
    · replace h := gw_ifp h c_2
      refine hK _ _ _ _ _ _ _ ?_
      rw [fdX10_mostOfB_49]
      simp only [gt_nil, true_and, eq_self, gt_iconst, bkX10_mostOfB_49]
      refine hK _ _ _ _ _ _ _ ?_
      rw [fdX10_mostOfB_50]
      simp only [gt_nil, true_and, eq_self, gt_iret, gt_retz, bkX10_mostOfB_50]
      obtain rfl := gw_inj1 h
      exact ⟨hcc, hss, hq⟩
    · replace h := gw_ifn h c_2
      refine hK _ _ _ _ _ _ _ ?_
      rw [fdX10_mostOfB_50]
      simp only [gt_nil, true_and, eq_self, gt_iret, gt_retz, bkX10_mostOfB_50]
      obtain rfl := gw_inj1 h
      exact ⟨hcc, hss, hq⟩
  · replace h := gw_ifn2 (gw_c2_ne _ _) h c_1
    obtain rfl := gw_inj1 h
    exact ⟨hcc, hss, hq⟩
theorem ok_X10_mostOfB {l : Launch} {x : gw_C} {d : Nat} {S : gw_S} {Q : Option Value → gw_S → gw_M → Prop} {v0 v1 : Int32} {n0 : Nat} {μ : gw_M} {r} (h : F_X10_mostOfB n0 v0 v1 μ = some r) (hq : Q (some (.int r)) S μ) : gw_ok l x (d + 1) sgX10_mostOfB 0 0 [.int v0, .int v1] S μ Q := by
  refine gw_ok_of stX10_mostOfB (lv0 := [.int v0, .int v1, .retAddr 0]) (Nat.le_of_ble_eq_true rfl) rfl rfl ?_
  intro K hK
  have hcc : 0 ≤ 0 := Nat.zero_le _
  have hss : 0 ≤ 0 := Nat.zero_le _
  unfold F_X10_mostOfB at h
  refine hK _ _ _ _ _ _ _ ?_
  rw [fdX10_mostOfB_0]
  simp only [gt_nil, true_and, eq_self, gt_iload_n, gt_ink, gw_nth, gt_iconst, gt_icmp, gt_bipush, gt_goto, bkX10_mostOfB_0]
  refine ⟨fun c_1 => ?_, fun c_1 => ?_⟩
  · replace h := gw_ifp2 (gw_c2_ne _ _) h c_1
    refine hK _ _ _ _ _ _ _ ?_
    rw [fdX10_mostOfB_19]
    simp only [gt_nil, true_and, eq_self, gt_iload_n, gt_ink, gw_nth, gt_bipush, gt_icmp, gt_iconst, gt_goto, bkX10_mostOfB_19]
    refine ⟨fun c_2 => ?_, fun c_2 => ?_⟩
    · replace h := gw_ifp2 (gw_c2_ne _ _) h c_2
      refine hK _ _ _ _ _ _ _ ?_
      rw [fdX10_mostOfB_29]
      simp only [gt_nil, true_and, eq_self, gt_iconst, bkX10_mostOfB_29]
      exact B_X10_mostOfB_30 hcc hss hK h hq
    · replace h := gw_ifn2 (gw_c2_ne _ _) h c_2
      exact B_X10_mostOfB_30 hcc hss hK h hq
  · replace h := gw_ifn2 (gw_c2_ne _ _) h c_1
    refine ⟨fun c_3 => ?_, fun c_3 => ?_⟩
    · replace h := gw_ifp2 (gw_c2_ne _ _) h c_3
      refine hK _ _ _ _ _ _ _ ?_
      rw [fdX10_mostOfB_15]
      simp only [gt_nil, true_and, eq_self, gt_iconst, gt_goto, bkX10_mostOfB_15]
      exact B_X10_mostOfB_30 hcc hss hK h hq
    · replace h := gw_ifn2 (gw_c2_ne _ _) h c_3
      exact B_X10_mostOfB_30 hcc hss hK h hq
def F_X10_isAct_30 (n0 : Nat) (μ : gw_M) : Option (Int32) := some 0
def F_X10_isAct (n0 : Nat) (v0 : Int32) (v1 : Int32) (v2 : Int32) (v3 : Int32) (μ : gw_M) : Option (Int32) := (F_X10_mostOfA n0 v0 v1 μ).bind (fun (r_1 : Int32) => (F_X10_within n0 v2 0 r_1 μ).bind (fun (r_5 : Int32) => (if r_5 = 0 then F_X10_isAct_30 n0 μ else (F_X10_mostOfB n0 v0 v1 μ).bind (fun (r_10 : Int32) => (F_X10_within n0 v3 0 r_10 μ).bind (fun (r_14 : Int32) => (if r_14 = 0 then F_X10_isAct_30 n0 μ else some 1))))))
theorem B_X10_isAct_30 {l : Launch} {x : gw_C} {d : Nat} {S : gw_S} {Q : Option Value → gw_S → gw_M → Prop} {K : Nat → gw_Kt} {mc ms cc ss : Nat} (hcc : cc ≤ mc) (hss : ss ≤ ms) (hK : gw_cl l x (d + 1) mc ms bsX10_isAct Q K) {n0 : Nat}  {u0 u1 u2 u3 : Value} {μ : gw_M} {r} (h : F_X10_isAct_30 n0 μ = some r) (hq : ((r = 0 ∨ r = 1) → Q (some (.int r)) S μ)) : K 30 [u0, u1, u2, u3] [] S μ cc ss := by
  unfold F_X10_isAct_30 at h
  refine hK _ _ _ _ _ _ _ ?_
  rw [fdX10_isAct_30]
  simp only [gt_nil, true_and, eq_self, gt_iconst, bkX10_isAct_30]
  refine hK _ _ _ _ _ _ _ ?_
  rw [fdX10_isAct_31]
  simp only [gt_nil, true_and, eq_self, gt_iret, gt_retz, bkX10_isAct_31]
  obtain rfl := gw_inj1 h
  exact ⟨(Or.inl rfl), hcc, hss, hq (Or.inl rfl)⟩
theorem ok_X10_isAct {l : Launch} {x : gw_C} {d : Nat} {S : gw_S} {Q : Option Value → gw_S → gw_M → Prop} {v0 v1 v2 v3 : Int32} {n0 : Nat} {μ : gw_M} {r} (h : F_X10_isAct n0 v0 v1 v2 v3 μ = some r) (hq : ((r = 0 ∨ r = 1) → Q (some (.int r)) S μ)) : gw_ok l x (d + 2) sgX10_isAct 0 0 [.int v0, .int v1, .int v2, .int v3] S μ Q := by
  refine gw_ok_of stX10_isAct (lv0 := [.int v0, .int v1, .int v2, .int v3]) (Nat.le_of_ble_eq_true rfl) rfl rfl ?_
  intro K hK
  have hcc : 0 ≤ 0 := Nat.zero_le _
  have hss : 0 ≤ 0 := Nat.zero_le _
  unfold F_X10_isAct at h
  refine hK _ _ _ _ _ _ _ ?_
  rw [fdX10_isAct_0]
  simp only [gt_nil, true_and, eq_self, gt_iload_n, gt_ink, gw_nth, gt_iconst, gt_s1_0, gt_s2_0, gt_s3_0, gt_s4_0, gt_s1_1, gt_s2_1, gt_s3_1, gt_s4_1, gt_acpy, gt_if, gt_goto, bkX10_isAct_0]
  obtain ⟨r_1, e_3, h⟩ := gw_bnd h
  refine ⟨rfl, 0, 0, hcc, hss, ok_X10_mostOfA e_3 ?_⟩
  simp only [gt_nil, true_and, eq_self, gt_s1_0, gt_s2_0, gt_s3_0, gt_s4_0, gt_s1_1, gt_s2_1, gt_s3_1, gt_s4_1, gt_acpy, gt_if, gt_iload_n, gt_ink, gw_nth, gt_iconst, gt_goto, Option.toList, List.cons_append, List.nil_append, Nat.add_zero]
  obtain ⟨r_5, e_7, h⟩ := gw_bnd h
  refine ⟨rfl, 0, 0, hcc, hss, ok_X10_within e_7 ?_⟩
  intro hbr_5
  simp only [gt_nil, true_and, eq_self, gt_if, gt_iload_n, gt_ink, gw_nth, gt_iconst, gt_s1_0, gt_s2_0, gt_s3_0, gt_s4_0, gt_s1_1, gt_s2_1, gt_s3_1, gt_s4_1, gt_acpy, gt_goto, Option.toList, List.cons_append, List.nil_append, Nat.add_zero]
  refine ⟨fun c_9 => ?_, fun c_9 => ?_⟩
  · replace h := gw_ifp h c_9
    exact B_X10_isAct_30 hcc hss hK h hq
  · replace h := gw_ifn h c_9
    obtain ⟨r_10, e_12, h⟩ := gw_bnd h
    refine ⟨rfl, 0, 0, hcc, hss, ok_X10_mostOfB e_12 ?_⟩
    simp only [gt_nil, true_and, eq_self, gt_s1_0, gt_s2_0, gt_s3_0, gt_s4_0, gt_s1_1, gt_s2_1, gt_s3_1, gt_s4_1, gt_acpy, gt_if, gt_iconst, gt_goto, Option.toList, List.cons_append, List.nil_append, Nat.add_zero]
    obtain ⟨r_14, e_16, h⟩ := gw_bnd h
    refine ⟨rfl, 0, 0, hcc, hss, ok_X10_within e_16 ?_⟩
    intro hbr_14
    simp only [gt_nil, true_and, eq_self, gt_if, gt_iconst, gt_goto, Option.toList, List.cons_append, List.nil_append, Nat.add_zero]
    refine ⟨fun c_18 => ?_, fun c_18 => ?_⟩
    · replace h := gw_ifp h c_18
      exact B_X10_isAct_30 hcc hss hK h hq
    · replace h := gw_ifn h c_18
      refine hK _ _ _ _ _ _ _ ?_
      rw [fdX10_isAct_31]
      simp only [gt_nil, true_and, eq_self, gt_iret, gt_retz, bkX10_isAct_31]
      obtain rfl := gw_inj1 h
      exact ⟨(Or.inr rfl), hcc, hss, hq (Or.inr rfl)⟩
def F_X10_act (n0 : Nat) (a0 : Nat) (v1 : Int32) (v2 : Int32) (v3 : Int32) (v4 : Int32) (μ pu : gw_M) : Option (Int32 × gw_M × Bool) := (F_X10_isGuest n0 v1 μ).bind (fun (r_1 : Int32) => (if r_1 = 0 then some ((-1), μ, false) else (F_X10_isAct n0 v1 v2 v3 v4 μ).bind (fun (r_6 : Int32) => (if ¬ r_6 = 0 then (F_X3_guest n0 (a0 + 1) v1 μ).bind (fun (r_11 : Nat) => (if (μ (r_11 + 1) 3) < 24 then (((F_X7_add n0 (r_11 + 1) v2 v3 v4 pu).bind (fun (μ_19 : gw_M) => (F_X3_dealOut n0 (a0 + 1) μ_19).bind (fun (μ_23 : gw_M) => some ((μ_23 (r_11 + 1) 3), μ_23)))).map (fun (z : Int32 × gw_M) => (z.1, z.2, true))) else some ((-1), μ, false))) else some ((-1), μ, false)))))
theorem ok_X10_act {l : Launch} {x : gw_C} {d mc ms : Nat} {S Sp : gw_S} {Q : Option Value → gw_S → gw_M → Prop} {v1 v2 v3 v4 : Int32} {a0 n0 : Nat} {μ pu : gw_M} {r μ'} {b : Bool} (hmo : ∀ {c e : Nat}, gw_sh S c e → gw_sh Sp c e) (hpu : ∀ {Q1 : Option Value → gw_S → gw_M → Prop}, Q1 none Sp pu → gw_ok l x (d + 8) sgX5_push mc ms [.ref (a0 + 83), .ref (a0 + 1)] S μ Q1) (hS0 : gw_sh S 10 a0) (h : F_X10_act n0 a0 v1 v2 v3 v4 μ pu = some (r, μ', b)) (hq : Q (some (.int r)) (cond b Sp S) μ') : gw_ok l x (d + 9) sgX10_act mc ms [.ref a0, .int v1, .int v2, .int v3, .int v4] S μ Q := by
  refine gw_ok_of stX10_act (lv0 := [.ref a0, .int v1, .int v2, .int v3, .int v4, .retAddr 0]) (Nat.le_of_ble_eq_true rfl) rfl rfl ?_
  intro K hK
  have hcc : 0 ≤ mc := Nat.zero_le _
  have hss : 0 ≤ ms := Nat.zero_le _
  have ka0_0 : gw_kd S a0 = 10 := (hS0 0 _ rfl).1
  have ra0_0_0 : gw_rf S a0 0 = a0 + 1 := (hS0 0 _ rfl).2.2 (0, 1) (by decide)
  have ra0_0_1 : gw_rf S a0 1 = a0 + 83 := (hS0 0 _ rfl).2.2 (1, 83) (by decide)
  have ka0_1 : gw_kd S (a0 + 1) = 3 := (hS0 1 _ rfl).1
  have ka0_83 : gw_kd S (a0 + 83) = 5 := (hS0 83 _ rfl).1
  unfold F_X10_act at h
  refine hK _ _ _ _ _ _ _ ?_
  rw [fdX10_act_0]
  simp only [gt_nil, true_and, eq_self, gt_iload_n, gt_ink, gw_nth, gt_s1_0, gt_s2_0, gt_s3_0, gt_s4_0, gt_s1_1, gt_s2_1, gt_s3_1, gt_s4_1, gt_acpy, gt_if, gt_iload, bkX10_act_0, ka0_0, ra0_0_0, ra0_0_1, ka0_1, ka0_83]
  obtain ⟨r_1, e_3, h⟩ := gw_bnd h
  refine ⟨rfl, 0, 0, hcc, hss, ok_X10_isGuest e_3 ?_⟩
  intro hbr_1
  simp only [gt_nil, true_and, eq_self, gt_if, gt_iload_n, gt_ink, gw_nth, gt_iload, gt_s1_0, gt_s2_0, gt_s3_0, gt_s4_0, gt_s1_1, gt_s2_1, gt_s3_1, gt_s4_1, gt_acpy, Option.toList, List.cons_append, List.nil_append, Nat.add_zero, ka0_0, ra0_0_0, ra0_0_1, ka0_1, ka0_83]
  refine ⟨fun c_5 => ?_, fun c_5 => ?_⟩
  · replace h := gw_ifp h c_5
    refine hK _ _ _ _ _ _ _ ?_
    rw [fdX10_act_18]
    simp only [gt_nil, true_and, eq_self, gt_iconst, gt_iret, gt_retz, bkX10_act_18, ka0_0, ra0_0_0, ra0_0_1, ka0_1, ka0_83]
    obtain ⟨rfl, rfl, rfl⟩ := gw_inj3 h
    exact ⟨hcc, hss, hq⟩
  · replace h := gw_ifn h c_5
    obtain ⟨r_6, e_8, h⟩ := gw_bnd h
    refine ⟨rfl, 0, 0, hcc, hss, ok_X10_isAct e_8 ?_⟩
    intro hbr_6
    simp only [gt_nil, true_and, eq_self, gt_if, Option.toList, List.cons_append, List.nil_append, Nat.add_zero, ka0_0, ra0_0_0, ra0_0_1, ka0_1, ka0_83]
    refine ⟨fun c_10 => ?_, fun c_10 => ?_⟩
    · replace h := gw_ifp h c_10
      refine hK _ _ _ _ _ _ _ ?_
      rw [fdX10_act_20]
      simp only [gt_nil, true_and, eq_self, gt_aload_n, gt_rfk, gw_nth, gt_get_r, gt_get_i, gt_get_z, gt_iload_n, gt_ink, gt_v0, gt_v1, gt_v2, gt_v3, gt_v4, gt_v5, gt_astore, gw_set, gt_aload, gt_bipush, gt_icmp, gt_iconst, gt_iret, gt_retz, bkX10_act_20, ka0_0, ra0_0_0, ra0_0_1, ka0_1, ka0_83]
      obtain ⟨r_11, e_13, h⟩ := gw_bnd h
      refine ⟨rfl, 0, 0, hcc, hss, ok_X3_guest (gw_sub hS0 3 1 (by decide +kernel)) e_13 ?_⟩
      intro hsr_11
      have kr_11_0 : gw_kd S r_11 = 0 := (hsr_11 0 _ rfl).1
      have rr_11_0_0 : gw_rf S r_11 0 = r_11 + 1 := (hsr_11 0 _ rfl).2.2 (0, 1) (by decide)
      have kr_11_1 : gw_kd S (r_11 + 1) = 7 := (hsr_11 1 _ rfl).1
      simp only [gt_nil, true_and, eq_self, gt_get_r, gt_get_i, gt_get_z, gt_astore, gw_set, gt_aload, gt_rfk, gw_nth, gt_bipush, gt_icmp, gt_iconst, gt_iret, gt_retz, Option.toList, List.cons_append, List.nil_append, Nat.add_zero, ka0_0, ra0_0_0, ra0_0_1, ka0_1, ka0_83, kr_11_0, rr_11_0_0, kr_11_1]
      refine ⟨fun c_15 => ?_, fun c_15 => ?_⟩
      · replace h := gw_ifp2 (gw_c2_lt _ _) h c_15
        refine hK _ _ _ _ _ _ _ ?_
        rw [fdX10_act_45]
        simp only [gt_nil, true_and, eq_self, gt_aload_n, gt_rfk, gw_nth, gt_get_r, gt_get_i, gt_get_z, gt_v0, gt_v1, gt_v2, gt_v3, gt_v4, gt_v5, gt_aload, gt_iload_n, gt_ink, gt_iload, gt_iret, gt_retz, bkX10_act_45, ka0_0, ra0_0_0, ra0_0_1, ka0_1, ka0_83, kr_11_0, rr_11_0_0, kr_11_1]
        obtain ⟨⟨zr_16, zm_17⟩, h2, hz⟩ := gw_mp h
        clear h
        obtain ⟨rfl, rfl, rfl⟩ := gw_tup hz
        have h := h2
        replace hq : Q (some (.int zr_16)) Sp zm_17 := hq
        refine ⟨rfl, mc, ms, Nat.le_of_eq (Nat.zero_add mc), Nat.le_of_eq (Nat.zero_add ms), hpu ?_⟩
        replace hcc : 0 + mc ≤ mc := Nat.le_of_eq (Nat.zero_add mc)
        replace hss : 0 + ms ≤ ms := Nat.le_of_eq (Nat.zero_add ms)
        have kpa0_0 : gw_kd Sp a0 = 10 := ((hmo hS0) 0 _ rfl).1
        have rpa0_0_0 : gw_rf Sp a0 0 = a0 + 1 := ((hmo hS0) 0 _ rfl).2.2 (0, 1) (by decide)
        have kpa0_1 : gw_kd Sp (a0 + 1) = 3 := ((hmo hS0) 1 _ rfl).1
        have kpr_11_1 : gw_kd Sp (r_11 + 1) = 7 := ((hmo hsr_11) 1 _ rfl).1
        simp only [gt_nil, true_and, eq_self, gt_aload, gt_rfk, gw_nth, gt_iload_n, gt_ink, gt_iload, gt_v0, gt_v1, gt_v2, gt_v3, gt_v4, gt_v5, gt_aload_n, gt_get_r, gt_get_i, gt_get_z, gt_iret, gt_retz, Option.toList, List.cons_append, List.nil_append, Nat.add_zero, kpa0_0, rpa0_0_0, kpa0_1, kpr_11_1]
        obtain ⟨μ_19, e_20, h⟩ := gw_bnd h
        refine ⟨rfl, 0, 0, hcc, hss, ok_X7_add (gw_sub (hmo hsr_11) 7 1 (by decide +kernel)) e_20 ?_⟩
        simp only [gt_nil, true_and, eq_self, gt_aload_n, gt_rfk, gw_nth, gt_get_r, gt_get_i, gt_get_z, gt_v0, gt_v1, gt_v2, gt_v3, gt_v4, gt_v5, gt_aload, gt_iret, gt_retz, Option.toList, List.cons_append, List.nil_append, Nat.add_zero, kpa0_0, rpa0_0_0, kpa0_1, kpr_11_1]
        obtain ⟨μ_23, e_24, h⟩ := gw_bnd h
        refine ⟨rfl, 0, 0, hcc, hss, ok_X3_dealOut (gw_sub (hmo hS0) 3 1 (by decide +kernel)) e_24 ?_⟩
        simp only [gt_nil, true_and, eq_self, gt_aload, gt_rfk, gw_nth, gt_get_r, gt_get_i, gt_get_z, gt_iret, gt_retz, Option.toList, List.cons_append, List.nil_append, Nat.add_zero, kpa0_0, rpa0_0_0, kpa0_1, kpr_11_1]
        obtain ⟨rfl, rfl⟩ := gw_inj2 h
        exact ⟨hcc, hss, hq⟩
      · replace h := gw_ifn2 (gw_c2_lt _ _) h c_15
        obtain ⟨rfl, rfl, rfl⟩ := gw_inj3 h
        exact ⟨hcc, hss, hq⟩
    · replace h := gw_ifn h c_10
      refine hK _ _ _ _ _ _ _ ?_
      rw [fdX10_act_18]
      simp only [gt_nil, true_and, eq_self, gt_iconst, gt_iret, gt_retz, bkX10_act_18, ka0_0, ra0_0_0, ra0_0_1, ka0_1, ka0_83]
      obtain ⟨rfl, rfl, rfl⟩ := gw_inj3 h
      exact ⟨hcc, hss, hq⟩
def F_X10_wipe (n0 : Nat) (a0 : Nat) (v1 : Int32) (μ pu : gw_M) : Option (Int32 × gw_M × Bool) := (F_X10_isGuest n0 v1 μ).bind (fun (r_1 : Int32) => (if ¬ r_1 = 0 then (((F_X3_guest n0 (a0 + 1) v1 pu).bind (fun (r_8 : Nat) => gw_let ((pu (r_8 + 1) 3)) (fun (w_12 : Int32) => gw_let (gw_up pu (r_8 + 1) 3 0) (fun (μ_13 : gw_M) => gw_let (gw_up μ_13 (r_8 + 1) 4 0) (fun (μ_14 : gw_M) => (F_X3_dealOut n0 (a0 + 1) μ_14).bind (fun (μ_16 : gw_M) => some (w_12, μ_16))))))).map (fun (z : Int32 × gw_M) => (z.1, z.2, true))) else some ((-1), μ, false)))
theorem ok_X10_wipe {l : Launch} {x : gw_C} {d mc ms : Nat} {S Sp : gw_S} {Q : Option Value → gw_S → gw_M → Prop} {v1 : Int32} {a0 n0 : Nat} {μ pu : gw_M} {r μ'} {b : Bool} (hmo : ∀ {c e : Nat}, gw_sh S c e → gw_sh Sp c e) (hpu : ∀ {Q1 : Option Value → gw_S → gw_M → Prop}, Q1 none Sp pu → gw_ok l x (d + 8) sgX5_push mc ms [.ref (a0 + 83), .ref (a0 + 1)] S μ Q1) (hS0 : gw_sh S 10 a0) (h : F_X10_wipe n0 a0 v1 μ pu = some (r, μ', b)) (hq : Q (some (.int r)) (cond b Sp S) μ') : gw_ok l x (d + 9) sgX10_wipe mc ms [.ref a0, .int v1] S μ Q := by
  refine gw_ok_of stX10_wipe (lv0 := [.ref a0, .int v1, .retAddr 0, .retAddr 0]) (Nat.le_of_ble_eq_true rfl) rfl rfl ?_
  intro K hK
  have hcc : 0 ≤ mc := Nat.zero_le _
  have hss : 0 ≤ ms := Nat.zero_le _
  have ka0_0 : gw_kd S a0 = 10 := (hS0 0 _ rfl).1
  have ra0_0_0 : gw_rf S a0 0 = a0 + 1 := (hS0 0 _ rfl).2.2 (0, 1) (by decide)
  have ra0_0_1 : gw_rf S a0 1 = a0 + 83 := (hS0 0 _ rfl).2.2 (1, 83) (by decide)
  have ka0_83 : gw_kd S (a0 + 83) = 5 := (hS0 83 _ rfl).1
  unfold F_X10_wipe at h
  refine hK _ _ _ _ _ _ _ ?_
  rw [fdX10_wipe_0]
  simp only [gt_nil, true_and, eq_self, gt_iload_n, gt_ink, gw_nth, gt_s1_0, gt_s2_0, gt_s3_0, gt_s4_0, gt_s1_1, gt_s2_1, gt_s3_1, gt_s4_1, gt_acpy, gt_if, gt_iconst, gt_iret, gt_retz, bkX10_wipe_0, ka0_0, ra0_0_0, ra0_0_1, ka0_83]
  obtain ⟨r_1, e_3, h⟩ := gw_bnd h
  refine ⟨rfl, 0, 0, hcc, hss, ok_X10_isGuest e_3 ?_⟩
  intro hbr_1
  simp only [gt_nil, true_and, eq_self, gt_if, gt_iconst, gt_iret, gt_retz, Option.toList, List.cons_append, List.nil_append, Nat.add_zero, ka0_0, ra0_0_0, ra0_0_1, ka0_83]
  refine ⟨fun c_5 => ?_, fun c_5 => ?_⟩
  · replace h := gw_ifp h c_5
    refine hK _ _ _ _ _ _ _ ?_
    rw [fdX10_wipe_9]
    simp only [gt_nil, true_and, eq_self, gt_aload_n, gt_rfk, gw_nth, gt_get_r, gt_get_i, gt_get_z, gt_v0, gt_v1, gt_v2, gt_v3, gt_v4, gt_v5, gt_iload_n, gt_ink, gt_astore_n, gw_set, gt_istore_n, gt_iconst, gt_put_i, gt_putz, gt_iret, gt_retz, bkX10_wipe_9, ka0_0, ra0_0_0, ra0_0_1, ka0_83]
    obtain ⟨⟨zr_6, zm_7⟩, h2, hz⟩ := gw_mp h
    clear h
    obtain ⟨rfl, rfl, rfl⟩ := gw_tup hz
    have h := h2
    replace hq : Q (some (.int zr_6)) Sp zm_7 := hq
    refine ⟨rfl, mc, ms, Nat.le_of_eq (Nat.zero_add mc), Nat.le_of_eq (Nat.zero_add ms), hpu ?_⟩
    replace hcc : 0 + mc ≤ mc := Nat.le_of_eq (Nat.zero_add mc)
    replace hss : 0 + ms ≤ ms := Nat.le_of_eq (Nat.zero_add ms)
    have kpa0_0 : gw_kd Sp a0 = 10 := ((hmo hS0) 0 _ rfl).1
    have rpa0_0_0 : gw_rf Sp a0 0 = a0 + 1 := ((hmo hS0) 0 _ rfl).2.2 (0, 1) (by decide)
    have kpa0_1 : gw_kd Sp (a0 + 1) = 3 := ((hmo hS0) 1 _ rfl).1
    simp only [gt_nil, true_and, eq_self, gt_aload_n, gt_rfk, gw_nth, gt_get_r, gt_get_i, gt_get_z, gt_iload_n, gt_ink, gt_v0, gt_v1, gt_v2, gt_v3, gt_v4, gt_v5, gt_astore_n, gw_set, gt_istore_n, gt_iconst, gt_put_i, gt_putz, gt_iret, gt_retz, Option.toList, List.cons_append, List.nil_append, Nat.add_zero, kpa0_0, rpa0_0_0, kpa0_1]
    obtain ⟨r_8, e_10, h⟩ := gw_bnd h
    refine ⟨rfl, 0, 0, hcc, hss, ok_X3_guest (gw_sub (hmo hS0) 3 1 (by decide +kernel)) e_10 ?_⟩
    intro hsr_8
    have kpr_8_0 : gw_kd Sp r_8 = 0 := (hsr_8 0 _ rfl).1
    have rpr_8_0_0 : gw_rf Sp r_8 0 = r_8 + 1 := (hsr_8 0 _ rfl).2.2 (0, 1) (by decide)
    have kpr_8_1 : gw_kd Sp (r_8 + 1) = 7 := (hsr_8 1 _ rfl).1
    simp only [gt_nil, true_and, eq_self, gt_get_r, gt_get_i, gt_get_z, gt_astore_n, gw_set, gt_aload_n, gt_rfk, gw_nth, gt_istore_n, gt_iconst, gt_put_i, gt_putz, gt_v0, gt_v1, gt_v2, gt_v3, gt_v4, gt_v5, gt_iload_n, gt_ink, gt_iret, gt_retz, Option.toList, List.cons_append, List.nil_append, Nat.add_zero, kpa0_0, rpa0_0_0, kpa0_1, kpr_8_0, rpr_8_0_0, kpr_8_1]
    obtain ⟨w_12, hw_12, h⟩ := gw_lt h
    try rw [← hw_12]
    obtain ⟨μ_13, hμ_13, h⟩ := gw_lt h
    try rw [← hμ_13]
    obtain ⟨μ_14, hμ_14, h⟩ := gw_lt h
    try rw [← hμ_14]
    obtain ⟨μ_16, e_17, h⟩ := gw_bnd h
    refine ⟨rfl, 0, 0, hcc, hss, ok_X3_dealOut (gw_sub (hmo hS0) 3 1 (by decide +kernel)) e_17 ?_⟩
    simp only [gt_nil, true_and, eq_self, gt_iload_n, gt_ink, gw_nth, gt_iret, gt_retz, Option.toList, List.cons_append, List.nil_append, Nat.add_zero, kpa0_0, rpa0_0_0, kpa0_1, kpr_8_0, rpr_8_0_0, kpr_8_1]
    obtain ⟨rfl, rfl⟩ := gw_inj2 h
    exact ⟨hcc, hss, hq⟩
  · replace h := gw_ifn h c_5
    obtain ⟨rfl, rfl, rfl⟩ := gw_inj3 h
    exact ⟨hcc, hss, hq⟩
def F_X10_run_37 (n0 : Nat) (a0 : Nat) : Nat → Int32 → Int32 → Int32 → gw_M → Option (Int32 × gw_M)
  | 0, _, _, _, _ => none
  | n + 1, v1, v2, v3, μ => (if v1 ≤ v3 then (F_X2_allExits n0 (a0 + 26) μ).bind (fun (r_2 : Int32) => some ((r_2 - v2), μ)) else (F_X3_goOn n0 (a0 + 1) μ).bind (fun (μ_7 : gw_M) => gw_let (v3 + 1) (fun (w_10 : Int32) => F_X10_run_37 n0 a0 n v1 v2 w_10 μ_7)))
def F_X10_run (n0 : Nat) (a0 : Nat) (v1 : Int32) (μ pu : gw_M) : Option (Int32 × gw_M × Bool) := (F_X10_mayGo n0 a0 v1 200 μ).bind (fun (r_1 : Int32) => (if ¬ r_1 = 0 then (((F_X2_allExits n0 (a0 + 26) pu).bind (fun (r_8 : Int32) => F_X10_run_37 n0 a0 n0 v1 r_8 0 pu)).map (fun (z : Int32 × gw_M) => (z.1, z.2, true))) else some ((-1), μ, false)))
theorem B_X10_run_37 {l : Launch} {x : gw_C} {d : Nat} {S : gw_S} {Q : Option Value → gw_S → gw_M → Prop} {K : Nat → gw_Kt} {mc ms cc ss : Nat} (hcc : cc ≤ mc) (hss : ss ≤ ms) (hK : gw_cl l x (d + 8) mc ms bsX10_run Q K) {a0 : Nat} (hS0 : gw_sh S 10 a0) {n0 : Nat} : ∀ {n : Nat} {v1 v2 v3} {μ : gw_M} {r μ'}, F_X10_run_37 n0 a0 n v1 v2 v3 μ = some (r, μ') → Q (some (.int r)) S μ' → K 37 [.ref a0, .int v1, .int v2, .int v3] [] S μ cc ss := by
  have ka0_0 : gw_kd S a0 = 10 := (hS0 0 _ rfl).1
  have ra0_0_0 : gw_rf S a0 0 = a0 + 1 := (hS0 0 _ rfl).2.2 (0, 1) (by decide)
  have ka0_1 : gw_kd S (a0 + 1) = 3 := (hS0 1 _ rfl).1
  have ra0_1_14 : gw_rf S (a0 + 1) 14 = a0 + 26 := (hS0 1 _ rfl).2.2 (14, 26) (by decide)
  have ka0_26 : gw_kd S (a0 + 26) = 2 := (hS0 26 _ rfl).1
  intro n
  induction n with
  | zero => intro v1 v2 v3 μ r μ' h hq; simp [F_X10_run_37] at h
  | succ n ih =>
    intro v1 v2 v3 μ r μ' h hq
    simp only [F_X10_run_37] at h
    refine hK _ _ _ _ _ _ _ ?_
    rw [fdX10_run_37]
    simp only [gt_nil, true_and, eq_self, gt_iload_n, gt_ink, gw_nth, gt_icmp, gt_aload_n, gt_rfk, gt_get_r, gt_get_i, gt_get_z, gt_v0, gt_v1, gt_v2, gt_v3, gt_v4, gt_v5, gt_iinc, gw_set, gt_goto, bkX10_run_37, ka0_0, ra0_0_0, ka0_1, ra0_1_14, ka0_26]
    refine ⟨fun c_1 => ?_, fun c_1 => ?_⟩
    · replace h := gw_ifp2 (gw_c2_ge _ _) h c_1
      refine hK _ _ _ _ _ _ _ ?_
      rw [fdX10_run_55]
      simp only [gt_nil, true_and, eq_self, gt_aload_n, gt_rfk, gw_nth, gt_get_r, gt_get_i, gt_get_z, gt_v0, gt_v1, gt_v2, gt_v3, gt_v4, gt_v5, gt_iload_n, gt_ink, gt_isub, gt_iret, gt_retz, bkX10_run_55, ka0_0, ra0_0_0, ka0_1, ra0_1_14, ka0_26]
      obtain ⟨r_2, e_4, h⟩ := gw_bnd h
      refine ⟨rfl, 0, 0, hcc, hss, ok_X2_allExits (gw_sub hS0 2 26 (by decide +kernel)) e_4 ?_⟩
      simp only [gt_nil, true_and, eq_self, gt_iload_n, gt_ink, gw_nth, gt_isub, gt_iret, gt_retz, Option.toList, List.cons_append, List.nil_append, Nat.add_zero, ka0_0, ra0_0_0, ka0_1, ra0_1_14, ka0_26]
      obtain ⟨rfl, rfl⟩ := gw_inj2 h
      exact ⟨hcc, hss, hq⟩
    · replace h := gw_ifn2 (gw_c2_ge _ _) h c_1
      obtain ⟨μ_7, e_8, h⟩ := gw_bnd h
      refine ⟨rfl, 0, 0, hcc, hss, ok_X3_goOn (gw_sub hS0 3 1 (by decide +kernel)) e_8 ?_⟩
      simp only [gt_nil, true_and, eq_self, gt_iinc, gt_ink, gw_nth, gw_set, gt_goto, Option.toList, List.cons_append, List.nil_append, Nat.add_zero, ka0_0, ra0_0_0, ka0_1, ra0_1_14, ka0_26]
      obtain ⟨w_10, hw_10, h⟩ := gw_lt h
      try rw [← hw_10]
      exact ih h hq
theorem ok_X10_run {l : Launch} {x : gw_C} {d mc ms : Nat} {S Sp : gw_S} {Q : Option Value → gw_S → gw_M → Prop} {v1 : Int32} {a0 n0 : Nat} {μ pu : gw_M} {r μ'} {b : Bool} (hmo : ∀ {c e : Nat}, gw_sh S c e → gw_sh Sp c e) (hpu : ∀ {Q1 : Option Value → gw_S → gw_M → Prop}, Q1 none Sp pu → gw_ok l x (d + 8) sgX5_push mc ms [.ref (a0 + 83), .ref (a0 + 1)] S μ Q1) (hS0 : gw_sh S 10 a0) (h : F_X10_run n0 a0 v1 μ pu = some (r, μ', b)) (hq : Q (some (.int r)) (cond b Sp S) μ') : gw_ok l x (d + 9) sgX10_run mc ms [.ref a0, .int v1] S μ Q := by
  refine gw_ok_of stX10_run (lv0 := [.ref a0, .int v1, .retAddr 0, .retAddr 0]) (Nat.le_of_ble_eq_true rfl) rfl rfl ?_
  intro K hK
  have hcc : 0 ≤ mc := Nat.zero_le _
  have hss : 0 ≤ ms := Nat.zero_le _
  have ka0_0 : gw_kd S a0 = 10 := (hS0 0 _ rfl).1
  have ra0_0_0 : gw_rf S a0 0 = a0 + 1 := (hS0 0 _ rfl).2.2 (0, 1) (by decide)
  have ra0_0_1 : gw_rf S a0 1 = a0 + 83 := (hS0 0 _ rfl).2.2 (1, 83) (by decide)
  have ka0_83 : gw_kd S (a0 + 83) = 5 := (hS0 83 _ rfl).1
  unfold F_X10_run at h
  refine hK _ _ _ _ _ _ _ ?_
  rw [fdX10_run_0]
  simp only [gt_nil, true_and, eq_self, gt_aload_n, gt_rfk, gw_nth, gt_iload_n, gt_ink, gt_sipush, gt_v0, gt_v1, gt_v2, gt_v3, gt_v4, gt_v5, gt_if, gt_iconst, gt_iret, gt_retz, bkX10_run_0, ka0_0, ra0_0_0, ra0_0_1, ka0_83]
  obtain ⟨r_1, e_3, h⟩ := gw_bnd h
  refine ⟨rfl, 0, 0, hcc, hss, ok_X10_mayGo hS0 e_3 ?_⟩
  intro hbr_1
  simp only [gt_nil, true_and, eq_self, gt_if, gt_iconst, gt_iret, gt_retz, Option.toList, List.cons_append, List.nil_append, Nat.add_zero, ka0_0, ra0_0_0, ra0_0_1, ka0_83]
  refine ⟨fun c_5 => ?_, fun c_5 => ?_⟩
  · replace h := gw_ifp h c_5
    refine hK _ _ _ _ _ _ _ ?_
    rw [fdX10_run_13]
    simp only [gt_nil, true_and, eq_self, gt_aload_n, gt_rfk, gw_nth, gt_get_r, gt_get_i, gt_get_z, gt_v0, gt_v1, gt_v2, gt_v3, gt_v4, gt_v5, gt_istore_n, gw_set, gt_iconst, bkX10_run_13, ka0_0, ra0_0_0, ra0_0_1, ka0_83]
    obtain ⟨⟨zr_6, zm_7⟩, h2, hz⟩ := gw_mp h
    clear h
    obtain ⟨rfl, rfl, rfl⟩ := gw_tup hz
    have h := h2
    replace hq : Q (some (.int zr_6)) Sp zm_7 := hq
    refine ⟨rfl, mc, ms, Nat.le_of_eq (Nat.zero_add mc), Nat.le_of_eq (Nat.zero_add ms), hpu ?_⟩
    replace hcc : 0 + mc ≤ mc := Nat.le_of_eq (Nat.zero_add mc)
    replace hss : 0 + ms ≤ ms := Nat.le_of_eq (Nat.zero_add ms)
    have kpa0_0 : gw_kd Sp a0 = 10 := ((hmo hS0) 0 _ rfl).1
    have rpa0_0_0 : gw_rf Sp a0 0 = a0 + 1 := ((hmo hS0) 0 _ rfl).2.2 (0, 1) (by decide)
    have kpa0_1 : gw_kd Sp (a0 + 1) = 3 := ((hmo hS0) 1 _ rfl).1
    have rpa0_1_14 : gw_rf Sp (a0 + 1) 14 = a0 + 26 := ((hmo hS0) 1 _ rfl).2.2 (14, 26) (by decide)
    have kpa0_26 : gw_kd Sp (a0 + 26) = 2 := ((hmo hS0) 26 _ rfl).1
    simp only [gt_nil, true_and, eq_self, gt_aload_n, gt_rfk, gw_nth, gt_get_r, gt_get_i, gt_get_z, gt_v0, gt_v1, gt_v2, gt_v3, gt_v4, gt_v5, gt_istore_n, gw_set, gt_iconst, Option.toList, List.cons_append, List.nil_append, Nat.add_zero, kpa0_0, rpa0_0_0, kpa0_1, rpa0_1_14, kpa0_26]
    obtain ⟨r_8, e_10, h⟩ := gw_bnd h
    refine ⟨rfl, 0, 0, hcc, hss, ok_X2_allExits (gw_sub (hmo hS0) 2 26 (by decide +kernel)) e_10 ?_⟩
    simp only [gt_nil, true_and, eq_self, gt_istore_n, gw_set, gt_iconst, Option.toList, List.cons_append, List.nil_append, Nat.add_zero, kpa0_0, rpa0_0_0, kpa0_1, rpa0_1_14, kpa0_26]
    exact B_X10_run_37 hcc hss hK (hmo hS0) h hq
  · replace h := gw_ifn h c_5
    obtain ⟨rfl, rfl, rfl⟩ := gw_inj3 h
    exact ⟨hcc, hss, hq⟩
def F_X10_undo (n0 : Nat) (a0 : Nat) (μ pu : gw_M) : Option (Int32 × gw_M × Bool) := (if ¬ (μ (a0 + 83) 2) = 0 then ((some ((pu (a0 + 83) 2), pu)).map (fun (z : Int32 × gw_M) => (z.1, z.2, true))) else some ((-1), μ, false))
theorem ok_X10_undo {l : Launch} {x : gw_C} {d mc ms : Nat} {S Sp : gw_S} {Q : Option Value → gw_S → gw_M → Prop} {a0 n0 : Nat} {μ pu : gw_M} {r μ'} {b : Bool} (hmo : ∀ {c e : Nat}, gw_sh S c e → gw_sh Sp c e) (hpu : ∀ {Q1 : Option Value → gw_S → gw_M → Prop}, Q1 none Sp pu → gw_ok l x (d + 8) sgX5_popInto mc ms [.ref (a0 + 83), .ref (a0 + 1)] S μ Q1) (hS0 : gw_sh S 10 a0) (h : F_X10_undo n0 a0 μ pu = some (r, μ', b)) (hq : Q (some (.int r)) (cond b Sp S) μ') : gw_ok l x (d + 9) sgX10_undo mc ms [.ref a0] S μ Q := by
  refine gw_ok_of stX10_undo (lv0 := [.ref a0]) (Nat.le_of_ble_eq_true rfl) rfl rfl ?_
  intro K hK
  have hcc : 0 ≤ mc := Nat.zero_le _
  have hss : 0 ≤ ms := Nat.zero_le _
  have ka0_0 : gw_kd S a0 = 10 := (hS0 0 _ rfl).1
  have ra0_0_0 : gw_rf S a0 0 = a0 + 1 := (hS0 0 _ rfl).2.2 (0, 1) (by decide)
  have ra0_0_1 : gw_rf S a0 1 = a0 + 83 := (hS0 0 _ rfl).2.2 (1, 83) (by decide)
  have ka0_83 : gw_kd S (a0 + 83) = 5 := (hS0 83 _ rfl).1
  unfold F_X10_undo at h
  refine hK _ _ _ _ _ _ _ ?_
  rw [fdX10_undo_0]
  simp only [gt_nil, true_and, eq_self, gt_aload_n, gt_rfk, gw_nth, gt_get_r, gt_get_i, gt_get_z, gt_if, gt_iconst, gt_iret, gt_retz, bkX10_undo_0, ka0_0, ra0_0_0, ra0_0_1, ka0_83]
  refine ⟨fun c_1 => ?_, fun c_1 => ?_⟩
  · replace h := gw_ifp h c_1
    refine hK _ _ _ _ _ _ _ ?_
    rw [fdX10_undo_12]
    simp only [gt_nil, true_and, eq_self, gt_aload_n, gt_rfk, gw_nth, gt_get_r, gt_get_i, gt_get_z, gt_v0, gt_v1, gt_v2, gt_v3, gt_v4, gt_v5, gt_iret, gt_retz, bkX10_undo_12, ka0_0, ra0_0_0, ra0_0_1, ka0_83]
    obtain ⟨⟨zr_2, zm_3⟩, h2, hz⟩ := gw_mp h
    clear h
    obtain ⟨rfl, rfl, rfl⟩ := gw_tup hz
    have h := h2
    replace hq : Q (some (.int zr_2)) Sp zm_3 := hq
    refine ⟨rfl, mc, ms, Nat.le_of_eq (Nat.zero_add mc), Nat.le_of_eq (Nat.zero_add ms), hpu ?_⟩
    replace hcc : 0 + mc ≤ mc := Nat.le_of_eq (Nat.zero_add mc)
    replace hss : 0 + ms ≤ ms := Nat.le_of_eq (Nat.zero_add ms)
    have kpa0_0 : gw_kd Sp a0 = 10 := ((hmo hS0) 0 _ rfl).1
    have rpa0_0_1 : gw_rf Sp a0 1 = a0 + 83 := ((hmo hS0) 0 _ rfl).2.2 (1, 83) (by decide)
    have kpa0_83 : gw_kd Sp (a0 + 83) = 5 := ((hmo hS0) 83 _ rfl).1
    simp only [gt_nil, true_and, eq_self, gt_aload_n, gt_rfk, gw_nth, gt_get_r, gt_get_i, gt_get_z, gt_iret, gt_retz, Option.toList, List.cons_append, List.nil_append, Nat.add_zero, kpa0_0, rpa0_0_1, kpa0_83]
    obtain ⟨rfl, rfl⟩ := gw_inj2 h
    exact ⟨hcc, hss, hq⟩
  · replace h := gw_ifn h c_1
    obtain ⟨rfl, rfl, rfl⟩ := gw_inj3 h
    exact ⟨hcc, hss, hq⟩
def F_X10_is (n0 : Nat) (a0 : Nat) (v1 : Int32) (μ : gw_M) : Option (Int32) := (F_X3_figure n0 (a0 + 1) v1 μ).bind (fun (r_1 : Int32) => some r_1)
theorem ok_X10_is {l : Launch} {x : gw_C} {d : Nat} {S : gw_S} {Q : Option Value → gw_S → gw_M → Prop} {v1 : Int32} {a0 : Nat} {n0 : Nat} {μ : gw_M} {r} (hS0 : gw_sh S 10 a0) (h : F_X10_is n0 a0 v1 μ = some r) (hq : Q (some (.int r)) S μ) : gw_ok l x (d + 4) sgX10_is 0 0 [.ref a0, .int v1] S μ Q := by
  refine gw_ok_of stX10_is (lv0 := [.ref a0, .int v1]) (Nat.le_of_ble_eq_true rfl) rfl rfl ?_
  intro K hK
  have hcc : 0 ≤ 0 := Nat.zero_le _
  have hss : 0 ≤ 0 := Nat.zero_le _
  have ka0_0 : gw_kd S a0 = 10 := (hS0 0 _ rfl).1
  have ra0_0_0 : gw_rf S a0 0 = a0 + 1 := (hS0 0 _ rfl).2.2 (0, 1) (by decide)
  have ka0_1 : gw_kd S (a0 + 1) = 3 := (hS0 1 _ rfl).1
  unfold F_X10_is at h
  refine hK _ _ _ _ _ _ _ ?_
  rw [fdX10_is_0]
  simp only [gt_nil, true_and, eq_self, gt_aload_n, gt_rfk, gw_nth, gt_get_r, gt_get_i, gt_get_z, gt_iload_n, gt_ink, gt_v0, gt_v1, gt_v2, gt_v3, gt_v4, gt_v5, gt_iret, gt_retz, bkX10_is_0, ka0_0, ra0_0_0, ka0_1]
  obtain ⟨r_1, e_3, h⟩ := gw_bnd h
  refine ⟨rfl, 0, 0, hcc, hss, ok_X3_figure (gw_sub hS0 3 1 (by decide +kernel)) e_3 ?_⟩
  simp only [gt_nil, true_and, eq_self, gt_iret, gt_retz, Option.toList, List.cons_append, List.nil_append, Nat.add_zero, ka0_0, ra0_0_0, ka0_1]
  obtain rfl := gw_inj1 h
  exact ⟨hcc, hss, hq⟩
def F_X10_told (n0 : Nat) (a0 : Nat) (v1 : Int32) (v2 : Int32) (v3 : Int32) (μ : gw_M) : Option (Int32) := (F_X10_within n0 v1 0 3 μ).bind (fun (r_1 : Int32) => (if r_1 = 0 then some (-1) else (F_X10_isPage n0 v2 μ).bind (fun (r_6 : Int32) => (if r_6 = 0 then some (-1) else (F_X10_within n0 v3 0 1 μ).bind (fun (r_11 : Int32) => (if ¬ r_11 = 0 then (F_X3_table n0 (a0 + 1) v1 μ).bind (fun (r_16 : Nat) => (F_X8_has n0 r_16 v2 μ).bind (fun (r_20 : Int32) => (if ¬ r_20 = 0 then (if ¬ v3 = 0 then (if 0 ≤ v2 ∧ v2.toNatClampNeg < 16 then some (μ (r_16 + 2) v2.toNatClampNeg) else none) else (if 0 ≤ v2 ∧ v2.toNatClampNeg < 16 then some (μ (r_16 + 1) v2.toNatClampNeg) else none)) else some (-1)))) else some (-1)))))))
theorem ok_X10_told {l : Launch} {x : gw_C} {d : Nat} {S : gw_S} {Q : Option Value → gw_S → gw_M → Prop} {v1 v2 v3 : Int32} {a0 : Nat} {n0 : Nat} {μ : gw_M} {r} (hS0 : gw_sh S 10 a0) (h : F_X10_told n0 a0 v1 v2 v3 μ = some r) (hq : Q (some (.int r)) S μ) : gw_ok l x (d + 3) sgX10_told 0 0 [.ref a0, .int v1, .int v2, .int v3] S μ Q := by
  refine gw_ok_of stX10_told (lv0 := [.ref a0, .int v1, .int v2, .int v3, .retAddr 0]) (Nat.le_of_ble_eq_true rfl) rfl rfl ?_
  intro K hK
  have hcc : 0 ≤ 0 := Nat.zero_le _
  have hss : 0 ≤ 0 := Nat.zero_le _
  have ka0_0 : gw_kd S a0 = 10 := (hS0 0 _ rfl).1
  have ra0_0_0 : gw_rf S a0 0 = a0 + 1 := (hS0 0 _ rfl).2.2 (0, 1) (by decide)
  have ka0_1 : gw_kd S (a0 + 1) = 3 := (hS0 1 _ rfl).1
  unfold F_X10_told at h
  refine hK _ _ _ _ _ _ _ ?_
  rw [fdX10_told_0]
  simp only [gt_nil, true_and, eq_self, gt_iload_n, gt_ink, gw_nth, gt_iconst, gt_s1_0, gt_s2_0, gt_s3_0, gt_s4_0, gt_s1_1, gt_s2_1, gt_s3_1, gt_s4_1, gt_acpy, gt_if, bkX10_told_0, ka0_0, ra0_0_0, ka0_1]
  obtain ⟨r_1, e_3, h⟩ := gw_bnd h
  refine ⟨rfl, 0, 0, hcc, hss, ok_X10_within e_3 ?_⟩
  intro hbr_1
  simp only [gt_nil, true_and, eq_self, gt_if, gt_iload_n, gt_ink, gw_nth, gt_s1_0, gt_s2_0, gt_s3_0, gt_s4_0, gt_s1_1, gt_s2_1, gt_s3_1, gt_s4_1, gt_acpy, gt_iconst, Option.toList, List.cons_append, List.nil_append, Nat.add_zero, ka0_0, ra0_0_0, ka0_1]
  refine ⟨fun c_5 => ?_, fun c_5 => ?_⟩
  · replace h := gw_ifp h c_5
    refine hK _ _ _ _ _ _ _ ?_
    rw [fdX10_told_25]
    simp only [gt_nil, true_and, eq_self, gt_iconst, gt_iret, gt_retz, bkX10_told_25, ka0_0, ra0_0_0, ka0_1]
    obtain rfl := gw_inj1 h
    exact ⟨hcc, hss, hq⟩
  · replace h := gw_ifn h c_5
    obtain ⟨r_6, e_8, h⟩ := gw_bnd h
    refine ⟨rfl, 0, 0, hcc, hss, ok_X10_isPage e_8 ?_⟩
    intro hbr_6
    simp only [gt_nil, true_and, eq_self, gt_if, gt_iload_n, gt_ink, gw_nth, gt_iconst, gt_s1_0, gt_s2_0, gt_s3_0, gt_s4_0, gt_s1_1, gt_s2_1, gt_s3_1, gt_s4_1, gt_acpy, Option.toList, List.cons_append, List.nil_append, Nat.add_zero, ka0_0, ra0_0_0, ka0_1]
    refine ⟨fun c_10 => ?_, fun c_10 => ?_⟩
    · replace h := gw_ifp h c_10
      refine hK _ _ _ _ _ _ _ ?_
      rw [fdX10_told_25]
      simp only [gt_nil, true_and, eq_self, gt_iconst, gt_iret, gt_retz, bkX10_told_25, ka0_0, ra0_0_0, ka0_1]
      obtain rfl := gw_inj1 h
      exact ⟨hcc, hss, hq⟩
    · replace h := gw_ifn h c_10
      obtain ⟨r_11, e_13, h⟩ := gw_bnd h
      refine ⟨rfl, 0, 0, hcc, hss, ok_X10_within e_13 ?_⟩
      intro hbr_11
      simp only [gt_nil, true_and, eq_self, gt_if, Option.toList, List.cons_append, List.nil_append, Nat.add_zero, ka0_0, ra0_0_0, ka0_1]
      refine ⟨fun c_15 => ?_, fun c_15 => ?_⟩
      · replace h := gw_ifp h c_15
        refine hK _ _ _ _ _ _ _ ?_
        rw [fdX10_told_27]
        simp only [gt_nil, true_and, eq_self, gt_aload_n, gt_rfk, gw_nth, gt_get_r, gt_get_i, gt_get_z, gt_iload_n, gt_ink, gt_v0, gt_v1, gt_v2, gt_v3, gt_v4, gt_v5, gt_astore, gw_set, gt_aload, gt_if, gt_iconst, gt_iret, gt_retz, bkX10_told_27, ka0_0, ra0_0_0, ka0_1]
        obtain ⟨r_16, e_18, h⟩ := gw_bnd h
        refine ⟨rfl, 0, 0, hcc, hss, ok_X3_table (gw_sub hS0 3 1 (by decide +kernel)) e_18 ?_⟩
        intro hsr_16
        have kr_16_0 : gw_kd S r_16 = 8 := (hsr_16 0 _ rfl).1
        have rr_16_0_0 : gw_rf S r_16 0 = r_16 + 1 := (hsr_16 0 _ rfl).2.2 (0, 1) (by decide)
        have rr_16_0_1 : gw_rf S r_16 1 = r_16 + 2 := (hsr_16 0 _ rfl).2.2 (1, 2) (by decide)
        have kr_16_1 : gw_kd S (r_16 + 1) = 12 := (hsr_16 1 _ rfl).1
        have lr_16_1 : gw_ln S (r_16 + 1) = 16 := (hsr_16 1 _ rfl).2.1
        have kr_16_2 : gw_kd S (r_16 + 2) = 12 := (hsr_16 2 _ rfl).1
        have lr_16_2 : gw_ln S (r_16 + 2) = 16 := (hsr_16 2 _ rfl).2.1
        simp only [gt_nil, true_and, eq_self, gt_astore, gw_set, gt_aload, gt_rfk, gw_nth, gt_iload_n, gt_ink, gt_v0, gt_v1, gt_v2, gt_v3, gt_v4, gt_v5, gt_if, gt_iconst, gt_iret, gt_retz, Option.toList, List.cons_append, List.nil_append, Nat.add_zero, ka0_0, ra0_0_0, ka0_1, kr_16_0, rr_16_0_0, rr_16_0_1, kr_16_1, lr_16_1, kr_16_2, lr_16_2]
        obtain ⟨r_20, e_22, h⟩ := gw_bnd h
        refine ⟨rfl, 0, 0, hcc, hss, ok_X8_has hsr_16 e_22 ?_⟩
        intro hbr_20
        simp only [gt_nil, true_and, eq_self, gt_if, gt_iconst, gt_iret, gt_retz, Option.toList, List.cons_append, List.nil_append, Nat.add_zero, ka0_0, ra0_0_0, ka0_1, kr_16_0, rr_16_0_0, rr_16_0_1, kr_16_1, lr_16_1, kr_16_2, lr_16_2]
        refine ⟨fun c_24 => ?_, fun c_24 => ?_⟩
        · replace h := gw_ifp h c_24
          refine hK _ _ _ _ _ _ _ ?_
          rw [fdX10_told_48]
          simp only [gt_nil, true_and, eq_self, gt_iload_n, gt_ink, gw_nth, gt_if, gt_aload, gt_rfk, gt_get_r, gt_get_i, gt_get_z, gt_iaload, gt_goto, bkX10_told_48, ka0_0, ra0_0_0, ka0_1, kr_16_0, rr_16_0_0, rr_16_0_1, kr_16_1, lr_16_1, kr_16_2, lr_16_2]
          refine ⟨fun c_25 => ?_, fun c_25 => ?_⟩
          · replace h := gw_ifp h c_25
            refine hK _ _ _ _ _ _ _ ?_
            rw [fdX10_told_62]
            simp only [gt_nil, true_and, eq_self, gt_aload, gt_rfk, gw_nth, gt_get_r, gt_get_i, gt_get_z, gt_iload_n, gt_ink, gt_iaload, bkX10_told_62, ka0_0, ra0_0_0, ka0_1, kr_16_0, rr_16_0_0, rr_16_0_1, kr_16_1, lr_16_1, kr_16_2, lr_16_2]
            obtain ⟨c_26, h⟩ := gw_ife h
            refine ⟨c_26, ?_⟩
            refine hK _ _ _ _ _ _ _ ?_
            rw [fdX10_told_69]
            simp only [gt_nil, true_and, eq_self, gt_iret, gt_retz, bkX10_told_69, ka0_0, ra0_0_0, ka0_1, kr_16_0, rr_16_0_0, rr_16_0_1, kr_16_1, lr_16_1, kr_16_2, lr_16_2]
            obtain rfl := gw_inj1 h
            exact ⟨hcc, hss, hq⟩
          · replace h := gw_ifn h c_25
            obtain ⟨c_27, h⟩ := gw_ife h
            refine ⟨c_27, ?_⟩
            refine hK _ _ _ _ _ _ _ ?_
            rw [fdX10_told_69]
            simp only [gt_nil, true_and, eq_self, gt_iret, gt_retz, bkX10_told_69, ka0_0, ra0_0_0, ka0_1, kr_16_0, rr_16_0_0, rr_16_0_1, kr_16_1, lr_16_1, kr_16_2, lr_16_2]
            obtain rfl := gw_inj1 h
            exact ⟨hcc, hss, hq⟩
        · replace h := gw_ifn h c_24
          obtain rfl := gw_inj1 h
          exact ⟨hcc, hss, hq⟩
      · replace h := gw_ifn h c_15
        refine hK _ _ _ _ _ _ _ ?_
        rw [fdX10_told_25]
        simp only [gt_nil, true_and, eq_self, gt_iconst, gt_iret, gt_retz, bkX10_told_25, ka0_0, ra0_0_0, ka0_1]
        obtain rfl := gw_inj1 h
        exact ⟨hcc, hss, hq⟩
def F_X10_folded (n0 : Nat) (a0 : Nat) (v1 : Int32) (μ : gw_M) : Option (Int32) := (F_X8_byAge n0 (a0 + 9) v1 μ).bind (fun (r_1 : Int32) => some r_1)
theorem ok_X10_folded {l : Launch} {x : gw_C} {d : Nat} {S : gw_S} {Q : Option Value → gw_S → gw_M → Prop} {v1 : Int32} {a0 : Nat} {n0 : Nat} {μ : gw_M} {r} (hS0 : gw_sh S 10 a0) (h : F_X10_folded n0 a0 v1 μ = some r) (hq : Q (some (.int r)) S μ) : gw_ok l x (d + 3) sgX10_folded 0 0 [.ref a0, .int v1] S μ Q := by
  refine gw_ok_of stX10_folded (lv0 := [.ref a0, .int v1]) (Nat.le_of_ble_eq_true rfl) rfl rfl ?_
  intro K hK
  have hcc : 0 ≤ 0 := Nat.zero_le _
  have hss : 0 ≤ 0 := Nat.zero_le _
  have ka0_0 : gw_kd S a0 = 10 := (hS0 0 _ rfl).1
  have ra0_0_0 : gw_rf S a0 0 = a0 + 1 := (hS0 0 _ rfl).2.2 (0, 1) (by decide)
  have ka0_1 : gw_kd S (a0 + 1) = 3 := (hS0 1 _ rfl).1
  have ra0_1_1 : gw_rf S (a0 + 1) 1 = a0 + 9 := (hS0 1 _ rfl).2.2 (1, 9) (by decide)
  have ka0_9 : gw_kd S (a0 + 9) = 8 := (hS0 9 _ rfl).1
  unfold F_X10_folded at h
  refine hK _ _ _ _ _ _ _ ?_
  rw [fdX10_folded_0]
  simp only [gt_nil, true_and, eq_self, gt_aload_n, gt_rfk, gw_nth, gt_get_r, gt_get_i, gt_get_z, gt_iload_n, gt_ink, gt_v0, gt_v1, gt_v2, gt_v3, gt_v4, gt_v5, gt_iret, gt_retz, bkX10_folded_0, ka0_0, ra0_0_0, ka0_1, ra0_1_1, ka0_9]
  obtain ⟨r_1, e_3, h⟩ := gw_bnd h
  refine ⟨rfl, 0, 0, hcc, hss, ok_X8_byAge (gw_sub hS0 8 9 (by decide +kernel)) e_3 ?_⟩
  simp only [gt_nil, true_and, eq_self, gt_iret, gt_retz, Option.toList, List.cons_append, List.nil_append, Nat.add_zero, ka0_0, ra0_0_0, ka0_1, ra0_1_1, ka0_9]
  obtain rfl := gw_inj1 h
  exact ⟨hcc, hss, hq⟩
def F_X10_isFrame (n0 : Nat) (v0 : Int32) (μ : gw_M) : Option (Int32) := (F_X10_within n0 v0 0 9 μ).bind (fun (r_1 : Int32) => some r_1)
theorem ok_X10_isFrame {l : Launch} {x : gw_C} {d : Nat} {S : gw_S} {Q : Option Value → gw_S → gw_M → Prop} {v0 : Int32} {n0 : Nat} {μ : gw_M} {r} (h : F_X10_isFrame n0 v0 μ = some r) (hq : ((r = 0 ∨ r = 1) → Q (some (.int r)) S μ)) : gw_ok l x (d + 2) sgX10_isFrame 0 0 [.int v0] S μ Q := by
  refine gw_ok_of stX10_isFrame (lv0 := [.int v0]) (Nat.le_of_ble_eq_true rfl) rfl rfl ?_
  intro K hK
  have hcc : 0 ≤ 0 := Nat.zero_le _
  have hss : 0 ≤ 0 := Nat.zero_le _
  unfold F_X10_isFrame at h
  refine hK _ _ _ _ _ _ _ ?_
  rw [fdX10_isFrame_0]
  simp only [gt_nil, true_and, eq_self, gt_iload_n, gt_ink, gw_nth, gt_iconst, gt_bipush, gt_s1_0, gt_s2_0, gt_s3_0, gt_s4_0, gt_s1_1, gt_s2_1, gt_s3_1, gt_s4_1, gt_acpy, gt_iret, gt_retz, bkX10_isFrame_0]
  obtain ⟨r_1, e_3, h⟩ := gw_bnd h
  refine ⟨rfl, 0, 0, hcc, hss, ok_X10_within e_3 ?_⟩
  intro hbr_1
  simp only [gt_nil, true_and, eq_self, gt_iret, gt_retz, Option.toList, List.cons_append, List.nil_append, Nat.add_zero]
  obtain rfl := gw_inj1 h
  exact ⟨hbr_1, hcc, hss, hq hbr_1⟩
def F_X10_frame (n0 : Nat) (a0 : Nat) (v1 : Int32) (μ : gw_M) : Option (Int32) := (F_X10_isFrame n0 v1 μ).bind (fun (r_1 : Int32) => (if r_1 = 0 then some (-1) else (if 0 ≤ v1 ∧ v1.toNatClampNeg < 10 then some (μ (a0 + 7) v1.toNatClampNeg) else none)))
theorem ok_X10_frame {l : Launch} {x : gw_C} {d : Nat} {S : gw_S} {Q : Option Value → gw_S → gw_M → Prop} {v1 : Int32} {a0 : Nat} {n0 : Nat} {μ : gw_M} {r} (hS0 : gw_sh S 10 a0) (h : F_X10_frame n0 a0 v1 μ = some r) (hq : Q (some (.int r)) S μ) : gw_ok l x (d + 3) sgX10_frame 0 0 [.ref a0, .int v1] S μ Q := by
  refine gw_ok_of stX10_frame (lv0 := [.ref a0, .int v1]) (Nat.le_of_ble_eq_true rfl) rfl rfl ?_
  intro K hK
  have hcc : 0 ≤ 0 := Nat.zero_le _
  have hss : 0 ≤ 0 := Nat.zero_le _
  have ka0_0 : gw_kd S a0 = 10 := (hS0 0 _ rfl).1
  have ra0_0_0 : gw_rf S a0 0 = a0 + 1 := (hS0 0 _ rfl).2.2 (0, 1) (by decide)
  have ka0_1 : gw_kd S (a0 + 1) = 3 := (hS0 1 _ rfl).1
  have ra0_1_0 : gw_rf S (a0 + 1) 0 = a0 + 2 := (hS0 1 _ rfl).2.2 (0, 2) (by decide)
  have ka0_2 : gw_kd S (a0 + 2) = 4 := (hS0 2 _ rfl).1
  have ra0_2_1 : gw_rf S (a0 + 2) 1 = a0 + 7 := (hS0 2 _ rfl).2.2 (1, 7) (by decide)
  have ka0_7 : gw_kd S (a0 + 7) = 12 := (hS0 7 _ rfl).1
  have la0_7 : gw_ln S (a0 + 7) = 10 := (hS0 7 _ rfl).2.1
  unfold F_X10_frame at h
  refine hK _ _ _ _ _ _ _ ?_
  rw [fdX10_frame_0]
  simp only [gt_nil, true_and, eq_self, gt_iload_n, gt_ink, gw_nth, gt_s1_0, gt_s2_0, gt_s3_0, gt_s4_0, gt_s1_1, gt_s2_1, gt_s3_1, gt_s4_1, gt_acpy, gt_if, gt_aload_n, gt_rfk, gt_get_r, gt_get_i, gt_get_z, gt_iaload, gt_goto, bkX10_frame_0, ka0_0, ra0_0_0, ka0_1, ra0_1_0, ka0_2, ra0_2_1, ka0_7, la0_7]
  obtain ⟨r_1, e_3, h⟩ := gw_bnd h
  refine ⟨rfl, 0, 0, hcc, hss, ok_X10_isFrame e_3 ?_⟩
  intro hbr_1
  simp only [gt_nil, true_and, eq_self, gt_if, gt_aload_n, gt_rfk, gw_nth, gt_get_r, gt_get_i, gt_get_z, gt_iload_n, gt_ink, gt_iaload, gt_goto, Option.toList, List.cons_append, List.nil_append, Nat.add_zero, ka0_0, ra0_0_0, ka0_1, ra0_1_0, ka0_2, ra0_2_1, ka0_7, la0_7]
  refine ⟨fun c_5 => ?_, fun c_5 => ?_⟩
  · replace h := gw_ifp h c_5
    refine hK _ _ _ _ _ _ _ ?_
    rw [fdX10_frame_22]
    simp only [gt_nil, true_and, eq_self, gt_iconst, bkX10_frame_22, ka0_0, ra0_0_0, ka0_1, ra0_1_0, ka0_2, ra0_2_1, ka0_7, la0_7]
    refine hK _ _ _ _ _ _ _ ?_
    rw [fdX10_frame_23]
    simp only [gt_nil, true_and, eq_self, gt_iret, gt_retz, bkX10_frame_23, ka0_0, ra0_0_0, ka0_1, ra0_1_0, ka0_2, ra0_2_1, ka0_7, la0_7]
    obtain rfl := gw_inj1 h
    exact ⟨hcc, hss, hq⟩
  · replace h := gw_ifn h c_5
    obtain ⟨c_6, h⟩ := gw_ife h
    refine ⟨c_6, ?_⟩
    refine hK _ _ _ _ _ _ _ ?_
    rw [fdX10_frame_23]
    simp only [gt_nil, true_and, eq_self, gt_iret, gt_retz, bkX10_frame_23, ka0_0, ra0_0_0, ka0_1, ra0_1_0, ka0_2, ra0_2_1, ka0_7, la0_7]
    obtain rfl := gw_inj1 h
    exact ⟨hcc, hss, hq⟩
def F_X10_handled (n0 : Nat) (a0 : Nat) (v1 : Int32) (μ : gw_M) : Option (Int32) := (F_X10_mayHaveHandler n0 v1 μ).bind (fun (r_1 : Int32) => (if r_1 = 0 then some (-1) else (if 0 ≤ v1 ∧ v1.toNatClampNeg < 10 then some (μ (a0 + 21) v1.toNatClampNeg) else none)))
theorem ok_X10_handled {l : Launch} {x : gw_C} {d : Nat} {S : gw_S} {Q : Option Value → gw_S → gw_M → Prop} {v1 : Int32} {a0 : Nat} {n0 : Nat} {μ : gw_M} {r} (hS0 : gw_sh S 10 a0) (h : F_X10_handled n0 a0 v1 μ = some r) (hq : Q (some (.int r)) S μ) : gw_ok l x (d + 2) sgX10_handled 0 0 [.ref a0, .int v1] S μ Q := by
  refine gw_ok_of stX10_handled (lv0 := [.ref a0, .int v1]) (Nat.le_of_ble_eq_true rfl) rfl rfl ?_
  intro K hK
  have hcc : 0 ≤ 0 := Nat.zero_le _
  have hss : 0 ≤ 0 := Nat.zero_le _
  have ka0_0 : gw_kd S a0 = 10 := (hS0 0 _ rfl).1
  have ra0_0_0 : gw_rf S a0 0 = a0 + 1 := (hS0 0 _ rfl).2.2 (0, 1) (by decide)
  have ka0_1 : gw_kd S (a0 + 1) = 3 := (hS0 1 _ rfl).1
  have ra0_1_9 : gw_rf S (a0 + 1) 9 = a0 + 21 := (hS0 1 _ rfl).2.2 (9, 21) (by decide)
  have ka0_21 : gw_kd S (a0 + 21) = 12 := (hS0 21 _ rfl).1
  have la0_21 : gw_ln S (a0 + 21) = 10 := (hS0 21 _ rfl).2.1
  unfold F_X10_handled at h
  refine hK _ _ _ _ _ _ _ ?_
  rw [fdX10_handled_0]
  simp only [gt_nil, true_and, eq_self, gt_iload_n, gt_ink, gw_nth, gt_s1_0, gt_s2_0, gt_s3_0, gt_s4_0, gt_s1_1, gt_s2_1, gt_s3_1, gt_s4_1, gt_acpy, gt_if, gt_aload_n, gt_rfk, gt_get_r, gt_get_i, gt_get_z, gt_iaload, gt_goto, bkX10_handled_0, ka0_0, ra0_0_0, ka0_1, ra0_1_9, ka0_21, la0_21]
  obtain ⟨r_1, e_3, h⟩ := gw_bnd h
  refine ⟨rfl, 0, 0, hcc, hss, ok_X10_mayHaveHandler e_3 ?_⟩
  intro hbr_1
  simp only [gt_nil, true_and, eq_self, gt_if, gt_aload_n, gt_rfk, gw_nth, gt_get_r, gt_get_i, gt_get_z, gt_iload_n, gt_ink, gt_iaload, gt_goto, Option.toList, List.cons_append, List.nil_append, Nat.add_zero, ka0_0, ra0_0_0, ka0_1, ra0_1_9, ka0_21, la0_21]
  refine ⟨fun c_5 => ?_, fun c_5 => ?_⟩
  · replace h := gw_ifp h c_5
    refine hK _ _ _ _ _ _ _ ?_
    rw [fdX10_handled_19]
    simp only [gt_nil, true_and, eq_self, gt_iconst, bkX10_handled_19, ka0_0, ra0_0_0, ka0_1, ra0_1_9, ka0_21, la0_21]
    refine hK _ _ _ _ _ _ _ ?_
    rw [fdX10_handled_20]
    simp only [gt_nil, true_and, eq_self, gt_iret, gt_retz, bkX10_handled_20, ka0_0, ra0_0_0, ka0_1, ra0_1_9, ka0_21, la0_21]
    obtain rfl := gw_inj1 h
    exact ⟨hcc, hss, hq⟩
  · replace h := gw_ifn h c_5
    obtain ⟨c_6, h⟩ := gw_ife h
    refine ⟨c_6, ?_⟩
    refine hK _ _ _ _ _ _ _ ?_
    rw [fdX10_handled_20]
    simp only [gt_nil, true_and, eq_self, gt_iret, gt_retz, bkX10_handled_20, ka0_0, ra0_0_0, ka0_1, ra0_1_9, ka0_21, la0_21]
    obtain rfl := gw_inj1 h
    exact ⟨hcc, hss, hq⟩
def F_X10_stored (n0 : Nat) (a0 : Nat) (v1 : Int32) (μ : gw_M) : Option (Int32) := (F_X10_isPage n0 v1 μ).bind (fun (r_1 : Int32) => (if r_1 = 0 then some (-1) else (if 0 ≤ v1 ∧ v1.toNatClampNeg < 16 then some (μ (a0 + 8) v1.toNatClampNeg) else none)))
theorem ok_X10_stored {l : Launch} {x : gw_C} {d : Nat} {S : gw_S} {Q : Option Value → gw_S → gw_M → Prop} {v1 : Int32} {a0 : Nat} {n0 : Nat} {μ : gw_M} {r} (hS0 : gw_sh S 10 a0) (h : F_X10_stored n0 a0 v1 μ = some r) (hq : Q (some (.int r)) S μ) : gw_ok l x (d + 3) sgX10_stored 0 0 [.ref a0, .int v1] S μ Q := by
  refine gw_ok_of stX10_stored (lv0 := [.ref a0, .int v1]) (Nat.le_of_ble_eq_true rfl) rfl rfl ?_
  intro K hK
  have hcc : 0 ≤ 0 := Nat.zero_le _
  have hss : 0 ≤ 0 := Nat.zero_le _
  have ka0_0 : gw_kd S a0 = 10 := (hS0 0 _ rfl).1
  have ra0_0_0 : gw_rf S a0 0 = a0 + 1 := (hS0 0 _ rfl).2.2 (0, 1) (by decide)
  have ka0_1 : gw_kd S (a0 + 1) = 3 := (hS0 1 _ rfl).1
  have ra0_1_0 : gw_rf S (a0 + 1) 0 = a0 + 2 := (hS0 1 _ rfl).2.2 (0, 2) (by decide)
  have ka0_2 : gw_kd S (a0 + 2) = 4 := (hS0 2 _ rfl).1
  have ra0_2_2 : gw_rf S (a0 + 2) 2 = a0 + 8 := (hS0 2 _ rfl).2.2 (2, 8) (by decide)
  have ka0_8 : gw_kd S (a0 + 8) = 12 := (hS0 8 _ rfl).1
  have la0_8 : gw_ln S (a0 + 8) = 16 := (hS0 8 _ rfl).2.1
  unfold F_X10_stored at h
  refine hK _ _ _ _ _ _ _ ?_
  rw [fdX10_stored_0]
  simp only [gt_nil, true_and, eq_self, gt_iload_n, gt_ink, gw_nth, gt_s1_0, gt_s2_0, gt_s3_0, gt_s4_0, gt_s1_1, gt_s2_1, gt_s3_1, gt_s4_1, gt_acpy, gt_if, gt_aload_n, gt_rfk, gt_get_r, gt_get_i, gt_get_z, gt_iaload, gt_goto, bkX10_stored_0, ka0_0, ra0_0_0, ka0_1, ra0_1_0, ka0_2, ra0_2_2, ka0_8, la0_8]
  obtain ⟨r_1, e_3, h⟩ := gw_bnd h
  refine ⟨rfl, 0, 0, hcc, hss, ok_X10_isPage e_3 ?_⟩
  intro hbr_1
  simp only [gt_nil, true_and, eq_self, gt_if, gt_aload_n, gt_rfk, gw_nth, gt_get_r, gt_get_i, gt_get_z, gt_iload_n, gt_ink, gt_iaload, gt_goto, Option.toList, List.cons_append, List.nil_append, Nat.add_zero, ka0_0, ra0_0_0, ka0_1, ra0_1_0, ka0_2, ra0_2_2, ka0_8, la0_8]
  refine ⟨fun c_5 => ?_, fun c_5 => ?_⟩
  · replace h := gw_ifp h c_5
    refine hK _ _ _ _ _ _ _ ?_
    rw [fdX10_stored_22]
    simp only [gt_nil, true_and, eq_self, gt_iconst, bkX10_stored_22, ka0_0, ra0_0_0, ka0_1, ra0_1_0, ka0_2, ra0_2_2, ka0_8, la0_8]
    refine hK _ _ _ _ _ _ _ ?_
    rw [fdX10_stored_23]
    simp only [gt_nil, true_and, eq_self, gt_iret, gt_retz, bkX10_stored_23, ka0_0, ra0_0_0, ka0_1, ra0_1_0, ka0_2, ra0_2_2, ka0_8, la0_8]
    obtain rfl := gw_inj1 h
    exact ⟨hcc, hss, hq⟩
  · replace h := gw_ifn h c_5
    obtain ⟨c_6, h⟩ := gw_ife h
    refine ⟨c_6, ?_⟩
    refine hK _ _ _ _ _ _ _ ?_
    rw [fdX10_stored_23]
    simp only [gt_nil, true_and, eq_self, gt_iret, gt_retz, bkX10_stored_23, ka0_0, ra0_0_0, ka0_1, ra0_1_0, ka0_2, ra0_2_2, ka0_8, la0_8]
    obtain rfl := gw_inj1 h
    exact ⟨hcc, hss, hq⟩
def F_X10_backed (n0 : Nat) (a0 : Nat) (v1 : Int32) (μ : gw_M) : Option (Int32) := (F_X8_byAge n0 (a0 + 3) v1 μ).bind (fun (r_1 : Int32) => some r_1)
theorem ok_X10_backed {l : Launch} {x : gw_C} {d : Nat} {S : gw_S} {Q : Option Value → gw_S → gw_M → Prop} {v1 : Int32} {a0 : Nat} {n0 : Nat} {μ : gw_M} {r} (hS0 : gw_sh S 10 a0) (h : F_X10_backed n0 a0 v1 μ = some r) (hq : Q (some (.int r)) S μ) : gw_ok l x (d + 3) sgX10_backed 0 0 [.ref a0, .int v1] S μ Q := by
  refine gw_ok_of stX10_backed (lv0 := [.ref a0, .int v1]) (Nat.le_of_ble_eq_true rfl) rfl rfl ?_
  intro K hK
  have hcc : 0 ≤ 0 := Nat.zero_le _
  have hss : 0 ≤ 0 := Nat.zero_le _
  have ka0_0 : gw_kd S a0 = 10 := (hS0 0 _ rfl).1
  have ra0_0_0 : gw_rf S a0 0 = a0 + 1 := (hS0 0 _ rfl).2.2 (0, 1) (by decide)
  have ka0_1 : gw_kd S (a0 + 1) = 3 := (hS0 1 _ rfl).1
  have ra0_1_0 : gw_rf S (a0 + 1) 0 = a0 + 2 := (hS0 1 _ rfl).2.2 (0, 2) (by decide)
  have ka0_2 : gw_kd S (a0 + 2) = 4 := (hS0 2 _ rfl).1
  have ra0_2_0 : gw_rf S (a0 + 2) 0 = a0 + 3 := (hS0 2 _ rfl).2.2 (0, 3) (by decide)
  have ka0_3 : gw_kd S (a0 + 3) = 8 := (hS0 3 _ rfl).1
  unfold F_X10_backed at h
  refine hK _ _ _ _ _ _ _ ?_
  rw [fdX10_backed_0]
  simp only [gt_nil, true_and, eq_self, gt_aload_n, gt_rfk, gw_nth, gt_get_r, gt_get_i, gt_get_z, gt_iload_n, gt_ink, gt_v0, gt_v1, gt_v2, gt_v3, gt_v4, gt_v5, gt_iret, gt_retz, bkX10_backed_0, ka0_0, ra0_0_0, ka0_1, ra0_1_0, ka0_2, ra0_2_0, ka0_3]
  obtain ⟨r_1, e_3, h⟩ := gw_bnd h
  refine ⟨rfl, 0, 0, hcc, hss, ok_X8_byAge (gw_sub hS0 8 3 (by decide +kernel)) e_3 ?_⟩
  simp only [gt_nil, true_and, eq_self, gt_iret, gt_retz, Option.toList, List.cons_append, List.nil_append, Nat.add_zero, ka0_0, ra0_0_0, ka0_1, ra0_1_0, ka0_2, ra0_2_0, ka0_3]
  obtain rfl := gw_inj1 h
  exact ⟨hcc, hss, hq⟩
def F_X10_copied (n0 : Nat) (a0 : Nat) (μ : gw_M) : Option (Int32) := some (μ (a0 + 2) 3)
theorem ok_X10_copied {l : Launch} {x : gw_C} {d : Nat} {S : gw_S} {Q : Option Value → gw_S → gw_M → Prop} {a0 : Nat} {n0 : Nat} {μ : gw_M} {r} (hS0 : gw_sh S 10 a0) (h : F_X10_copied n0 a0 μ = some r) (hq : Q (some (.int r)) S μ) : gw_ok l x (d + 1) sgX10_copied 0 0 [.ref a0] S μ Q := by
  refine gw_ok_of stX10_copied (lv0 := [.ref a0]) (Nat.le_of_ble_eq_true rfl) rfl rfl ?_
  intro K hK
  have hcc : 0 ≤ 0 := Nat.zero_le _
  have hss : 0 ≤ 0 := Nat.zero_le _
  have ka0_0 : gw_kd S a0 = 10 := (hS0 0 _ rfl).1
  have ra0_0_0 : gw_rf S a0 0 = a0 + 1 := (hS0 0 _ rfl).2.2 (0, 1) (by decide)
  have ka0_1 : gw_kd S (a0 + 1) = 3 := (hS0 1 _ rfl).1
  have ra0_1_0 : gw_rf S (a0 + 1) 0 = a0 + 2 := (hS0 1 _ rfl).2.2 (0, 2) (by decide)
  have ka0_2 : gw_kd S (a0 + 2) = 4 := (hS0 2 _ rfl).1
  unfold F_X10_copied at h
  refine hK _ _ _ _ _ _ _ ?_
  rw [fdX10_copied_0]
  simp only [gt_nil, true_and, eq_self, gt_aload_n, gt_rfk, gw_nth, gt_get_r, gt_get_i, gt_get_z, gt_iret, gt_retz, bkX10_copied_0, ka0_0, ra0_0_0, ka0_1, ra0_1_0, ka0_2]
  obtain rfl := gw_inj1 h
  exact ⟨hcc, hss, hq⟩
def F_X10_trapped (n0 : Nat) (a0 : Nat) (v1 : Int32) (μ : gw_M) : Option (Int32) := (if v1 = (0 : Int32) then (F_X3_inHand n0 (a0 + 1) μ).bind (fun (r_2 : Nat) => some (μ r_2 4)) else (if v1 = ((0 : Int32) + 1) then (F_X3_inHand n0 (a0 + 1) μ).bind (fun (r_7 : Nat) => some (μ r_7 5)) else (if v1 = (((0 : Int32) + 1) + 1) then (F_X3_inHand n0 (a0 + 1) μ).bind (fun (r_12 : Nat) => some (μ r_12 3)) else some (-1))))
theorem ok_X10_trapped {l : Launch} {x : gw_C} {d : Nat} {S : gw_S} {Q : Option Value → gw_S → gw_M → Prop} {v1 : Int32} {a0 : Nat} {n0 : Nat} {μ : gw_M} {r} (hS0 : gw_sh S 10 a0) (h : F_X10_trapped n0 a0 v1 μ = some r) (hq : Q (some (.int r)) S μ) : gw_ok l x (d + 2) sgX10_trapped 0 0 [.ref a0, .int v1] S μ Q := by
  refine gw_ok_of stX10_trapped (lv0 := [.ref a0, .int v1]) (Nat.le_of_ble_eq_true rfl) rfl rfl ?_
  intro K hK
  have hcc : 0 ≤ 0 := Nat.zero_le _
  have hss : 0 ≤ 0 := Nat.zero_le _
  have ka0_0 : gw_kd S a0 = 10 := (hS0 0 _ rfl).1
  have ra0_0_0 : gw_rf S a0 0 = a0 + 1 := (hS0 0 _ rfl).2.2 (0, 1) (by decide)
  have ka0_1 : gw_kd S (a0 + 1) = 3 := (hS0 1 _ rfl).1
  unfold F_X10_trapped at h
  refine hK _ _ _ _ _ _ _ ?_
  rw [fdX10_trapped_0]
  simp only [gt_nil, true_and, eq_self, gt_iload_n, gt_ink, gw_nth, gt_tsw, gw_sw, bkX10_trapped_0, ka0_0, ra0_0_0, ka0_1]
  refine ⟨fun c_1 => ?_, fun c_1 => ?_⟩
  · replace h := gw_ifp h c_1
    refine hK _ _ _ _ _ _ _ ?_
    rw [fdX10_trapped_28]
    simp only [gt_nil, true_and, eq_self, gt_aload_n, gt_rfk, gw_nth, gt_get_r, gt_get_i, gt_get_z, gt_v0, gt_v1, gt_v2, gt_v3, gt_v4, gt_v5, gt_iret, gt_retz, bkX10_trapped_28, ka0_0, ra0_0_0, ka0_1]
    obtain ⟨r_2, e_4, h⟩ := gw_bnd h
    refine ⟨rfl, 0, 0, hcc, hss, ok_X3_inHand (gw_sub hS0 3 1 (by decide +kernel)) e_4 ?_⟩
    intro hsr_2
    have kr_2_0 : gw_kd S r_2 = 1 := (hsr_2 0 _ rfl).1
    simp only [gt_nil, true_and, eq_self, gt_get_r, gt_get_i, gt_get_z, gt_iret, gt_retz, Option.toList, List.cons_append, List.nil_append, Nat.add_zero, ka0_0, ra0_0_0, ka0_1, kr_2_0]
    obtain rfl := gw_inj1 h
    exact ⟨hcc, hss, hq⟩
  replace h := gw_ifn h c_1
  refine ⟨fun c_6 => ?_, fun c_6 => ?_⟩
  · replace h := gw_ifp h c_6
    refine hK _ _ _ _ _ _ _ ?_
    rw [fdX10_trapped_39]
    simp only [gt_nil, true_and, eq_self, gt_aload_n, gt_rfk, gw_nth, gt_get_r, gt_get_i, gt_get_z, gt_v0, gt_v1, gt_v2, gt_v3, gt_v4, gt_v5, gt_iret, gt_retz, bkX10_trapped_39, ka0_0, ra0_0_0, ka0_1]
    obtain ⟨r_7, e_9, h⟩ := gw_bnd h
    refine ⟨rfl, 0, 0, hcc, hss, ok_X3_inHand (gw_sub hS0 3 1 (by decide +kernel)) e_9 ?_⟩
    intro hsr_7
    have kr_7_0 : gw_kd S r_7 = 1 := (hsr_7 0 _ rfl).1
    simp only [gt_nil, true_and, eq_self, gt_get_r, gt_get_i, gt_get_z, gt_iret, gt_retz, Option.toList, List.cons_append, List.nil_append, Nat.add_zero, ka0_0, ra0_0_0, ka0_1, kr_7_0]
    obtain rfl := gw_inj1 h
    exact ⟨hcc, hss, hq⟩
  replace h := gw_ifn h c_6
  refine ⟨fun c_11 => ?_, fun c_11 => ?_⟩
  · replace h := gw_ifp h c_11
    refine hK _ _ _ _ _ _ _ ?_
    rw [fdX10_trapped_50]
    simp only [gt_nil, true_and, eq_self, gt_aload_n, gt_rfk, gw_nth, gt_get_r, gt_get_i, gt_get_z, gt_v0, gt_v1, gt_v2, gt_v3, gt_v4, gt_v5, gt_iret, gt_retz, bkX10_trapped_50, ka0_0, ra0_0_0, ka0_1]
    obtain ⟨r_12, e_14, h⟩ := gw_bnd h
    refine ⟨rfl, 0, 0, hcc, hss, ok_X3_inHand (gw_sub hS0 3 1 (by decide +kernel)) e_14 ?_⟩
    intro hsr_12
    have kr_12_0 : gw_kd S r_12 = 1 := (hsr_12 0 _ rfl).1
    simp only [gt_nil, true_and, eq_self, gt_get_r, gt_get_i, gt_get_z, gt_iret, gt_retz, Option.toList, List.cons_append, List.nil_append, Nat.add_zero, ka0_0, ra0_0_0, ka0_1, kr_12_0]
    obtain rfl := gw_inj1 h
    exact ⟨hcc, hss, hq⟩
  replace h := gw_ifn h c_11
  refine hK _ _ _ _ _ _ _ ?_
  rw [fdX10_trapped_61]
  simp only [gt_nil, true_and, eq_self, gt_iconst, gt_iret, gt_retz, bkX10_trapped_61, ka0_0, ra0_0_0, ka0_1]
  obtain rfl := gw_inj1 h
  exact ⟨hcc, hss, hq⟩
def F_X10_heard (n0 : Nat) (a0 : Nat) (v1 : Int32) (μ : gw_M) : Option (Int32) := (if ¬ v1 = (-1) then (F_X2_heardAt n0 (a0 + 26) v1 μ).bind (fun (r_2 : Int32) => some r_2) else (F_X2_heardKept n0 (a0 + 26) μ).bind (fun (r_6 : Int32) => some r_6))
theorem ok_X10_heard {l : Launch} {x : gw_C} {d : Nat} {S : gw_S} {Q : Option Value → gw_S → gw_M → Prop} {v1 : Int32} {a0 : Nat} {n0 : Nat} {μ : gw_M} {r} (hS0 : gw_sh S 10 a0) (h : F_X10_heard n0 a0 v1 μ = some r) (hq : Q (some (.int r)) S μ) : gw_ok l x (d + 4) sgX10_heard 0 0 [.ref a0, .int v1] S μ Q := by
  refine gw_ok_of stX10_heard (lv0 := [.ref a0, .int v1]) (Nat.le_of_ble_eq_true rfl) rfl rfl ?_
  intro K hK
  have hcc : 0 ≤ 0 := Nat.zero_le _
  have hss : 0 ≤ 0 := Nat.zero_le _
  have ka0_0 : gw_kd S a0 = 10 := (hS0 0 _ rfl).1
  have ra0_0_0 : gw_rf S a0 0 = a0 + 1 := (hS0 0 _ rfl).2.2 (0, 1) (by decide)
  have ka0_1 : gw_kd S (a0 + 1) = 3 := (hS0 1 _ rfl).1
  have ra0_1_14 : gw_rf S (a0 + 1) 14 = a0 + 26 := (hS0 1 _ rfl).2.2 (14, 26) (by decide)
  have ka0_26 : gw_kd S (a0 + 26) = 2 := (hS0 26 _ rfl).1
  unfold F_X10_heard at h
  refine hK _ _ _ _ _ _ _ ?_
  rw [fdX10_heard_0]
  simp only [gt_nil, true_and, eq_self, gt_iload_n, gt_ink, gw_nth, gt_iconst, gt_icmp, gt_aload_n, gt_rfk, gt_get_r, gt_get_i, gt_get_z, gt_v0, gt_v1, gt_v2, gt_v3, gt_v4, gt_v5, gt_goto, bkX10_heard_0, ka0_0, ra0_0_0, ka0_1, ra0_1_14, ka0_26]
  refine ⟨fun c_1 => ?_, fun c_1 => ?_⟩
  · replace h := gw_ifp2 (gw_c2_ne _ _) h c_1
    refine hK _ _ _ _ _ _ _ ?_
    rw [fdX10_heard_18]
    simp only [gt_nil, true_and, eq_self, gt_aload_n, gt_rfk, gw_nth, gt_get_r, gt_get_i, gt_get_z, gt_iload_n, gt_ink, gt_v0, gt_v1, gt_v2, gt_v3, gt_v4, gt_v5, bkX10_heard_18, ka0_0, ra0_0_0, ka0_1, ra0_1_14, ka0_26]
    obtain ⟨r_2, e_4, h⟩ := gw_bnd h
    refine ⟨rfl, 0, 0, hcc, hss, ok_X2_heardAt (gw_sub hS0 2 26 (by decide +kernel)) e_4 ?_⟩
    simp only [gt_nil, true_and, eq_self, Option.toList, List.cons_append, List.nil_append, Nat.add_zero, ka0_0, ra0_0_0, ka0_1, ra0_1_14, ka0_26]
    refine hK _ _ _ _ _ _ _ ?_
    rw [fdX10_heard_29]
    simp only [gt_nil, true_and, eq_self, gt_iret, gt_retz, bkX10_heard_29, ka0_0, ra0_0_0, ka0_1, ra0_1_14, ka0_26]
    obtain rfl := gw_inj1 h
    exact ⟨hcc, hss, hq⟩
  · replace h := gw_ifn2 (gw_c2_ne _ _) h c_1
    obtain ⟨r_6, e_8, h⟩ := gw_bnd h
    refine ⟨rfl, 0, 0, hcc, hss, ok_X2_heardKept (gw_sub hS0 2 26 (by decide +kernel)) e_8 ?_⟩
    simp only [gt_nil, true_and, eq_self, gt_goto, Option.toList, List.cons_append, List.nil_append, Nat.add_zero, ka0_0, ra0_0_0, ka0_1, ra0_1_14, ka0_26]
    refine hK _ _ _ _ _ _ _ ?_
    rw [fdX10_heard_29]
    simp only [gt_nil, true_and, eq_self, gt_iret, gt_retz, bkX10_heard_29, ka0_0, ra0_0_0, ka0_1, ra0_1_14, ka0_26]
    obtain rfl := gw_inj1 h
    exact ⟨hcc, hss, hq⟩
def F_X10_changed (n0 : Nat) (a0 : Nat) (μ : gw_M) : Option (Int32) := some (μ (a0 + 2) 4)
theorem ok_X10_changed {l : Launch} {x : gw_C} {d : Nat} {S : gw_S} {Q : Option Value → gw_S → gw_M → Prop} {a0 : Nat} {n0 : Nat} {μ : gw_M} {r} (hS0 : gw_sh S 10 a0) (h : F_X10_changed n0 a0 μ = some r) (hq : Q (some (.int r)) S μ) : gw_ok l x (d + 1) sgX10_changed 0 0 [.ref a0] S μ Q := by
  refine gw_ok_of stX10_changed (lv0 := [.ref a0]) (Nat.le_of_ble_eq_true rfl) rfl rfl ?_
  intro K hK
  have hcc : 0 ≤ 0 := Nat.zero_le _
  have hss : 0 ≤ 0 := Nat.zero_le _
  have ka0_0 : gw_kd S a0 = 10 := (hS0 0 _ rfl).1
  have ra0_0_0 : gw_rf S a0 0 = a0 + 1 := (hS0 0 _ rfl).2.2 (0, 1) (by decide)
  have ka0_1 : gw_kd S (a0 + 1) = 3 := (hS0 1 _ rfl).1
  have ra0_1_0 : gw_rf S (a0 + 1) 0 = a0 + 2 := (hS0 1 _ rfl).2.2 (0, 2) (by decide)
  have ka0_2 : gw_kd S (a0 + 2) = 4 := (hS0 2 _ rfl).1
  unfold F_X10_changed at h
  refine hK _ _ _ _ _ _ _ ?_
  rw [fdX10_changed_0]
  simp only [gt_nil, true_and, eq_self, gt_aload_n, gt_rfk, gw_nth, gt_get_r, gt_get_i, gt_get_z, gt_iret, gt_retz, bkX10_changed_0, ka0_0, ra0_0_0, ka0_1, ra0_1_0, ka0_2]
  obtain rfl := gw_inj1 h
  exact ⟨hcc, hss, hq⟩
def F_X10_walk_26 (n0 : Nat) (a0 : Nat) (μ : gw_M) : Option (Int32) := some (-1)
def F_X10_walk (n0 : Nat) (a0 : Nat) (v1 : Int32) (v2 : Int32) (μ : gw_M) : Option (Int32) := (F_X10_isPage n0 v1 μ).bind (fun (r_1 : Int32) => (if r_1 = 0 then F_X10_walk_26 n0 a0 μ else (F_X10_isWay n0 v2 μ).bind (fun (r_6 : Int32) => (if r_6 = 0 then F_X10_walk_26 n0 a0 μ else (F_X3_walkTables n0 (a0 + 1) v1 v2 μ).bind (fun (r_11 : Int32) => some r_11)))))
theorem B_X10_walk_26 {l : Launch} {x : gw_C} {d : Nat} {S : gw_S} {Q : Option Value → gw_S → gw_M → Prop} {K : Nat → gw_Kt} {mc ms cc ss : Nat} (hcc : cc ≤ mc) (hss : ss ≤ ms) (hK : gw_cl l x (d + 3) mc ms bsX10_walk Q K) {a0 : Nat} (hS0 : gw_sh S 10 a0) {n0 : Nat}  {u1 u2 : Value} {μ : gw_M} {r} (h : F_X10_walk_26 n0 a0 μ = some r) (hq : Q (some (.int r)) S μ) : K 26 [.ref a0, u1, u2] [] S μ cc ss := by
  unfold F_X10_walk_26 at h
  refine hK _ _ _ _ _ _ _ ?_
  rw [fdX10_walk_26]
  simp only [gt_nil, true_and, eq_self, gt_iconst, bkX10_walk_26]
  refine hK _ _ _ _ _ _ _ ?_
  rw [fdX10_walk_27]
  simp only [gt_nil, true_and, eq_self, gt_iret, gt_retz, bkX10_walk_27]
  obtain rfl := gw_inj1 h
  exact ⟨hcc, hss, hq⟩
theorem ok_X10_walk {l : Launch} {x : gw_C} {d : Nat} {S : gw_S} {Q : Option Value → gw_S → gw_M → Prop} {v1 v2 : Int32} {a0 : Nat} {n0 : Nat} {μ : gw_M} {r} (hS0 : gw_sh S 10 a0) (h : F_X10_walk n0 a0 v1 v2 μ = some r) (hq : Q (some (.int r)) S μ) : gw_ok l x (d + 4) sgX10_walk 0 0 [.ref a0, .int v1, .int v2] S μ Q := by
  refine gw_ok_of stX10_walk (lv0 := [.ref a0, .int v1, .int v2]) (Nat.le_of_ble_eq_true rfl) rfl rfl ?_
  intro K hK
  have hcc : 0 ≤ 0 := Nat.zero_le _
  have hss : 0 ≤ 0 := Nat.zero_le _
  have ka0_0 : gw_kd S a0 = 10 := (hS0 0 _ rfl).1
  have ra0_0_0 : gw_rf S a0 0 = a0 + 1 := (hS0 0 _ rfl).2.2 (0, 1) (by decide)
  have ka0_1 : gw_kd S (a0 + 1) = 3 := (hS0 1 _ rfl).1
  unfold F_X10_walk at h
  refine hK _ _ _ _ _ _ _ ?_
  rw [fdX10_walk_0]
  simp only [gt_nil, true_and, eq_self, gt_iload_n, gt_ink, gw_nth, gt_s1_0, gt_s2_0, gt_s3_0, gt_s4_0, gt_s1_1, gt_s2_1, gt_s3_1, gt_s4_1, gt_acpy, gt_if, gt_aload_n, gt_rfk, gt_get_r, gt_get_i, gt_get_z, gt_v0, gt_v1, gt_v2, gt_v3, gt_v4, gt_v5, gt_goto, bkX10_walk_0, ka0_0, ra0_0_0, ka0_1]
  obtain ⟨r_1, e_3, h⟩ := gw_bnd h
  refine ⟨rfl, 0, 0, hcc, hss, ok_X10_isPage e_3 ?_⟩
  intro hbr_1
  simp only [gt_nil, true_and, eq_self, gt_if, gt_iload_n, gt_ink, gw_nth, gt_s1_0, gt_s2_0, gt_s3_0, gt_s4_0, gt_s1_1, gt_s2_1, gt_s3_1, gt_s4_1, gt_acpy, gt_aload_n, gt_rfk, gt_get_r, gt_get_i, gt_get_z, gt_v0, gt_v1, gt_v2, gt_v3, gt_v4, gt_v5, gt_goto, Option.toList, List.cons_append, List.nil_append, Nat.add_zero, ka0_0, ra0_0_0, ka0_1]
  refine ⟨fun c_5 => ?_, fun c_5 => ?_⟩
  · replace h := gw_ifp h c_5
    exact B_X10_walk_26 hcc hss hK hS0 h hq
  · replace h := gw_ifn h c_5
    obtain ⟨r_6, e_8, h⟩ := gw_bnd h
    refine ⟨rfl, 0, 0, hcc, hss, ok_X10_isWay e_8 ?_⟩
    intro hbr_6
    simp only [gt_nil, true_and, eq_self, gt_if, gt_aload_n, gt_rfk, gw_nth, gt_get_r, gt_get_i, gt_get_z, gt_iload_n, gt_ink, gt_v0, gt_v1, gt_v2, gt_v3, gt_v4, gt_v5, gt_goto, Option.toList, List.cons_append, List.nil_append, Nat.add_zero, ka0_0, ra0_0_0, ka0_1]
    refine ⟨fun c_10 => ?_, fun c_10 => ?_⟩
    · replace h := gw_ifp h c_10
      exact B_X10_walk_26 hcc hss hK hS0 h hq
    · replace h := gw_ifn h c_10
      obtain ⟨r_11, e_13, h⟩ := gw_bnd h
      refine ⟨rfl, 0, 0, hcc, hss, ok_X3_walkTables (gw_sub hS0 3 1 (by decide +kernel)) e_13 ?_⟩
      simp only [gt_nil, true_and, eq_self, gt_goto, Option.toList, List.cons_append, List.nil_append, Nat.add_zero, ka0_0, ra0_0_0, ka0_1]
      refine hK _ _ _ _ _ _ _ ?_
      rw [fdX10_walk_27]
      simp only [gt_nil, true_and, eq_self, gt_iret, gt_retz, bkX10_walk_27, ka0_0, ra0_0_0, ka0_1]
      obtain rfl := gw_inj1 h
      exact ⟨hcc, hss, hq⟩
def F_X10_given (n0 : Nat) (a0 : Nat) (v1 : Int32) (μ : gw_M) : Option (Int32) := (F_X10_isPage n0 v1 μ).bind (fun (r_1 : Int32) => (if r_1 = 0 then some (-1) else (F_X3_rightsOfVirtual n0 (a0 + 1) v1 μ).bind (fun (r_6 : Int32) => some r_6)))
theorem ok_X10_given {l : Launch} {x : gw_C} {d : Nat} {S : gw_S} {Q : Option Value → gw_S → gw_M → Prop} {v1 : Int32} {a0 : Nat} {n0 : Nat} {μ : gw_M} {r} (hS0 : gw_sh S 10 a0) (h : F_X10_given n0 a0 v1 μ = some r) (hq : Q (some (.int r)) S μ) : gw_ok l x (d + 4) sgX10_given 0 0 [.ref a0, .int v1] S μ Q := by
  refine gw_ok_of stX10_given (lv0 := [.ref a0, .int v1]) (Nat.le_of_ble_eq_true rfl) rfl rfl ?_
  intro K hK
  have hcc : 0 ≤ 0 := Nat.zero_le _
  have hss : 0 ≤ 0 := Nat.zero_le _
  have ka0_0 : gw_kd S a0 = 10 := (hS0 0 _ rfl).1
  have ra0_0_0 : gw_rf S a0 0 = a0 + 1 := (hS0 0 _ rfl).2.2 (0, 1) (by decide)
  have ka0_1 : gw_kd S (a0 + 1) = 3 := (hS0 1 _ rfl).1
  unfold F_X10_given at h
  refine hK _ _ _ _ _ _ _ ?_
  rw [fdX10_given_0]
  simp only [gt_nil, true_and, eq_self, gt_iload_n, gt_ink, gw_nth, gt_s1_0, gt_s2_0, gt_s3_0, gt_s4_0, gt_s1_1, gt_s2_1, gt_s3_1, gt_s4_1, gt_acpy, gt_if, gt_aload_n, gt_rfk, gt_get_r, gt_get_i, gt_get_z, gt_v0, gt_v1, gt_v2, gt_v3, gt_v4, gt_v5, gt_goto, bkX10_given_0, ka0_0, ra0_0_0, ka0_1]
  obtain ⟨r_1, e_3, h⟩ := gw_bnd h
  refine ⟨rfl, 0, 0, hcc, hss, ok_X10_isPage e_3 ?_⟩
  intro hbr_1
  simp only [gt_nil, true_and, eq_self, gt_if, gt_aload_n, gt_rfk, gw_nth, gt_get_r, gt_get_i, gt_get_z, gt_iload_n, gt_ink, gt_v0, gt_v1, gt_v2, gt_v3, gt_v4, gt_v5, gt_goto, Option.toList, List.cons_append, List.nil_append, Nat.add_zero, ka0_0, ra0_0_0, ka0_1]
  refine ⟨fun c_5 => ?_, fun c_5 => ?_⟩
  · replace h := gw_ifp h c_5
    refine hK _ _ _ _ _ _ _ ?_
    rw [fdX10_given_18]
    simp only [gt_nil, true_and, eq_self, gt_iconst, bkX10_given_18, ka0_0, ra0_0_0, ka0_1]
    refine hK _ _ _ _ _ _ _ ?_
    rw [fdX10_given_19]
    simp only [gt_nil, true_and, eq_self, gt_iret, gt_retz, bkX10_given_19, ka0_0, ra0_0_0, ka0_1]
    obtain rfl := gw_inj1 h
    exact ⟨hcc, hss, hq⟩
  · replace h := gw_ifn h c_5
    obtain ⟨r_6, e_8, h⟩ := gw_bnd h
    refine ⟨rfl, 0, 0, hcc, hss, ok_X3_rightsOfVirtual (gw_sub hS0 3 1 (by decide +kernel)) e_8 ?_⟩
    simp only [gt_nil, true_and, eq_self, gt_goto, Option.toList, List.cons_append, List.nil_append, Nat.add_zero, ka0_0, ra0_0_0, ka0_1]
    refine hK _ _ _ _ _ _ _ ?_
    rw [fdX10_given_19]
    simp only [gt_nil, true_and, eq_self, gt_iret, gt_retz, bkX10_given_19, ka0_0, ra0_0_0, ka0_1]
    obtain rfl := gw_inj1 h
    exact ⟨hcc, hss, hq⟩
def F_X10_lazy (n0 : Nat) (a0 : Nat) (μ : gw_M) : Option (Int32) := (F_X3_lazyPages n0 (a0 + 1) μ).bind (fun (r_1 : Int32) => some r_1)
theorem ok_X10_lazy {l : Launch} {x : gw_C} {d : Nat} {S : gw_S} {Q : Option Value → gw_S → gw_M → Prop} {a0 : Nat} {n0 : Nat} {μ : gw_M} {r} (hS0 : gw_sh S 10 a0) (h : F_X10_lazy n0 a0 μ = some r) (hq : Q (some (.int r)) S μ) : gw_ok l x (d + 4) sgX10_lazy 0 0 [.ref a0] S μ Q := by
  refine gw_ok_of stX10_lazy (lv0 := [.ref a0]) (Nat.le_of_ble_eq_true rfl) rfl rfl ?_
  intro K hK
  have hcc : 0 ≤ 0 := Nat.zero_le _
  have hss : 0 ≤ 0 := Nat.zero_le _
  have ka0_0 : gw_kd S a0 = 10 := (hS0 0 _ rfl).1
  have ra0_0_0 : gw_rf S a0 0 = a0 + 1 := (hS0 0 _ rfl).2.2 (0, 1) (by decide)
  have ka0_1 : gw_kd S (a0 + 1) = 3 := (hS0 1 _ rfl).1
  unfold F_X10_lazy at h
  refine hK _ _ _ _ _ _ _ ?_
  rw [fdX10_lazy_0]
  simp only [gt_nil, true_and, eq_self, gt_aload_n, gt_rfk, gw_nth, gt_get_r, gt_get_i, gt_get_z, gt_v0, gt_v1, gt_v2, gt_v3, gt_v4, gt_v5, gt_iret, gt_retz, bkX10_lazy_0, ka0_0, ra0_0_0, ka0_1]
  obtain ⟨r_1, e_3, h⟩ := gw_bnd h
  refine ⟨rfl, 0, 0, hcc, hss, ok_X3_lazyPages (gw_sub hS0 3 1 (by decide +kernel)) e_3 ?_⟩
  simp only [gt_nil, true_and, eq_self, gt_iret, gt_retz, Option.toList, List.cons_append, List.nil_append, Nat.add_zero, ka0_0, ra0_0_0, ka0_1]
  obtain rfl := gw_inj1 h
  exact ⟨hcc, hss, hq⟩
def F_X10_aliases (n0 : Nat) (a0 : Nat) (v1 : Int32) (μ : gw_M) : Option (Int32) := (F_X10_isFrame n0 v1 μ).bind (fun (r_1 : Int32) => (if r_1 = 0 then some (-1) else (F_X3_virtualPagesAt n0 (a0 + 1) v1 μ).bind (fun (r_6 : Int32) => some r_6)))
theorem ok_X10_aliases {l : Launch} {x : gw_C} {d : Nat} {S : gw_S} {Q : Option Value → gw_S → gw_M → Prop} {v1 : Int32} {a0 : Nat} {n0 : Nat} {μ : gw_M} {r} (hS0 : gw_sh S 10 a0) (h : F_X10_aliases n0 a0 v1 μ = some r) (hq : Q (some (.int r)) S μ) : gw_ok l x (d + 4) sgX10_aliases 0 0 [.ref a0, .int v1] S μ Q := by
  refine gw_ok_of stX10_aliases (lv0 := [.ref a0, .int v1]) (Nat.le_of_ble_eq_true rfl) rfl rfl ?_
  intro K hK
  have hcc : 0 ≤ 0 := Nat.zero_le _
  have hss : 0 ≤ 0 := Nat.zero_le _
  have ka0_0 : gw_kd S a0 = 10 := (hS0 0 _ rfl).1
  have ra0_0_0 : gw_rf S a0 0 = a0 + 1 := (hS0 0 _ rfl).2.2 (0, 1) (by decide)
  have ka0_1 : gw_kd S (a0 + 1) = 3 := (hS0 1 _ rfl).1
  unfold F_X10_aliases at h
  refine hK _ _ _ _ _ _ _ ?_
  rw [fdX10_aliases_0]
  simp only [gt_nil, true_and, eq_self, gt_iload_n, gt_ink, gw_nth, gt_s1_0, gt_s2_0, gt_s3_0, gt_s4_0, gt_s1_1, gt_s2_1, gt_s3_1, gt_s4_1, gt_acpy, gt_if, gt_aload_n, gt_rfk, gt_get_r, gt_get_i, gt_get_z, gt_v0, gt_v1, gt_v2, gt_v3, gt_v4, gt_v5, gt_goto, bkX10_aliases_0, ka0_0, ra0_0_0, ka0_1]
  obtain ⟨r_1, e_3, h⟩ := gw_bnd h
  refine ⟨rfl, 0, 0, hcc, hss, ok_X10_isFrame e_3 ?_⟩
  intro hbr_1
  simp only [gt_nil, true_and, eq_self, gt_if, gt_aload_n, gt_rfk, gw_nth, gt_get_r, gt_get_i, gt_get_z, gt_iload_n, gt_ink, gt_v0, gt_v1, gt_v2, gt_v3, gt_v4, gt_v5, gt_goto, Option.toList, List.cons_append, List.nil_append, Nat.add_zero, ka0_0, ra0_0_0, ka0_1]
  refine ⟨fun c_5 => ?_, fun c_5 => ?_⟩
  · replace h := gw_ifp h c_5
    refine hK _ _ _ _ _ _ _ ?_
    rw [fdX10_aliases_18]
    simp only [gt_nil, true_and, eq_self, gt_iconst, bkX10_aliases_18, ka0_0, ra0_0_0, ka0_1]
    refine hK _ _ _ _ _ _ _ ?_
    rw [fdX10_aliases_19]
    simp only [gt_nil, true_and, eq_self, gt_iret, gt_retz, bkX10_aliases_19, ka0_0, ra0_0_0, ka0_1]
    obtain rfl := gw_inj1 h
    exact ⟨hcc, hss, hq⟩
  · replace h := gw_ifn h c_5
    obtain ⟨r_6, e_8, h⟩ := gw_bnd h
    refine ⟨rfl, 0, 0, hcc, hss, ok_X3_virtualPagesAt (gw_sub hS0 3 1 (by decide +kernel)) e_8 ?_⟩
    simp only [gt_nil, true_and, eq_self, gt_goto, Option.toList, List.cons_append, List.nil_append, Nat.add_zero, ka0_0, ra0_0_0, ka0_1]
    refine hK _ _ _ _ _ _ _ ?_
    rw [fdX10_aliases_19]
    simp only [gt_nil, true_and, eq_self, gt_iret, gt_retz, bkX10_aliases_19, ka0_0, ra0_0_0, ka0_1]
    obtain rfl := gw_inj1 h
    exact ⟨hcc, hss, hq⟩
def F_X10_free (n0 : Nat) (a0 : Nat) (μ : gw_M) : Option (Int32) := (F_X4_framesLedTo n0 (a0 + 2) μ).bind (fun (r_1 : Int32) => (F_X10_lowestOutside n0 r_1 μ).bind (fun (r_5 : Int32) => some r_5))
theorem ok_X10_free {l : Launch} {x : gw_C} {d : Nat} {S : gw_S} {Q : Option Value → gw_S → gw_M → Prop} {a0 : Nat} {n0 : Nat} {μ : gw_M} {r} (hS0 : gw_sh S 10 a0) (h : F_X10_free n0 a0 μ = some r) (hq : Q (some (.int r)) S μ) : gw_ok l x (d + 2) sgX10_free 0 0 [.ref a0] S μ Q := by
  refine gw_ok_of stX10_free (lv0 := [.ref a0]) (Nat.le_of_ble_eq_true rfl) rfl rfl ?_
  intro K hK
  have hcc : 0 ≤ 0 := Nat.zero_le _
  have hss : 0 ≤ 0 := Nat.zero_le _
  have ka0_0 : gw_kd S a0 = 10 := (hS0 0 _ rfl).1
  have ra0_0_0 : gw_rf S a0 0 = a0 + 1 := (hS0 0 _ rfl).2.2 (0, 1) (by decide)
  have ka0_1 : gw_kd S (a0 + 1) = 3 := (hS0 1 _ rfl).1
  have ra0_1_0 : gw_rf S (a0 + 1) 0 = a0 + 2 := (hS0 1 _ rfl).2.2 (0, 2) (by decide)
  have ka0_2 : gw_kd S (a0 + 2) = 4 := (hS0 2 _ rfl).1
  unfold F_X10_free at h
  refine hK _ _ _ _ _ _ _ ?_
  rw [fdX10_free_0]
  simp only [gt_nil, true_and, eq_self, gt_aload_n, gt_rfk, gw_nth, gt_get_r, gt_get_i, gt_get_z, gt_v0, gt_v1, gt_v2, gt_v3, gt_v4, gt_v5, gt_s1_0, gt_s2_0, gt_s3_0, gt_s4_0, gt_s1_1, gt_s2_1, gt_s3_1, gt_s4_1, gt_acpy, gt_iret, gt_retz, bkX10_free_0, ka0_0, ra0_0_0, ka0_1, ra0_1_0, ka0_2]
  obtain ⟨r_1, e_3, h⟩ := gw_bnd h
  refine ⟨rfl, 0, 0, hcc, hss, ok_X4_framesLedTo (gw_sub hS0 4 2 (by decide +kernel)) e_3 ?_⟩
  simp only [gt_nil, true_and, eq_self, gt_s1_0, gt_s2_0, gt_s3_0, gt_s4_0, gt_s1_1, gt_s2_1, gt_s3_1, gt_s4_1, gt_acpy, gt_iret, gt_retz, Option.toList, List.cons_append, List.nil_append, Nat.add_zero, ka0_0, ra0_0_0, ka0_1, ra0_1_0, ka0_2]
  obtain ⟨r_5, e_7, h⟩ := gw_bnd h
  refine ⟨rfl, 0, 0, hcc, hss, ok_X10_lowestOutside e_7 ?_⟩
  simp only [gt_nil, true_and, eq_self, gt_iret, gt_retz, Option.toList, List.cons_append, List.nil_append, Nat.add_zero, ka0_0, ra0_0_0, ka0_1, ra0_1_0, ka0_2]
  obtain rfl := gw_inj1 h
  exact ⟨hcc, hss, hq⟩
def F_X10_wanted (n0 : Nat) (a0 : Nat) (v1 : Int32) (μ : gw_M) : Option (Int32) := (if v1 = (0 : Int32) then some (μ (a0 + 20) 0) else (if v1 = ((0 : Int32) + 1) then some (μ (a0 + 20) 1) else (if v1 = (((0 : Int32) + 1) + 1) then some ((μ (a0 + 20) 0) ||| (μ (a0 + 20) 1)) else some (-1))))
theorem ok_X10_wanted {l : Launch} {x : gw_C} {d : Nat} {S : gw_S} {Q : Option Value → gw_S → gw_M → Prop} {v1 : Int32} {a0 : Nat} {n0 : Nat} {μ : gw_M} {r} (hS0 : gw_sh S 10 a0) (h : F_X10_wanted n0 a0 v1 μ = some r) (hq : Q (some (.int r)) S μ) : gw_ok l x (d + 1) sgX10_wanted 0 0 [.ref a0, .int v1] S μ Q := by
  refine gw_ok_of stX10_wanted (lv0 := [.ref a0, .int v1]) (Nat.le_of_ble_eq_true rfl) rfl rfl ?_
  intro K hK
  have hcc : 0 ≤ 0 := Nat.zero_le _
  have hss : 0 ≤ 0 := Nat.zero_le _
  have ka0_0 : gw_kd S a0 = 10 := (hS0 0 _ rfl).1
  have ra0_0_0 : gw_rf S a0 0 = a0 + 1 := (hS0 0 _ rfl).2.2 (0, 1) (by decide)
  have ka0_1 : gw_kd S (a0 + 1) = 3 := (hS0 1 _ rfl).1
  have ra0_1_8 : gw_rf S (a0 + 1) 8 = a0 + 20 := (hS0 1 _ rfl).2.2 (8, 20) (by decide)
  have ka0_20 : gw_kd S (a0 + 20) = 12 := (hS0 20 _ rfl).1
  have la0_20 : gw_ln S (a0 + 20) = 2 := (hS0 20 _ rfl).2.1
  unfold F_X10_wanted at h
  refine hK _ _ _ _ _ _ _ ?_
  rw [fdX10_wanted_0]
  simp only [gt_nil, true_and, eq_self, gt_iload_n, gt_ink, gw_nth, gt_tsw, gw_sw, bkX10_wanted_0, ka0_0, ra0_0_0, ka0_1, ra0_1_8, ka0_20, la0_20, (show Int32.toNatClampNeg 0 = 0 from rfl), (show Int32.toNatClampNeg 1 = 1 from rfl)]
  refine ⟨fun c_1 => ?_, fun c_1 => ?_⟩
  · replace h := gw_ifp h c_1
    refine hK _ _ _ _ _ _ _ ?_
    rw [fdX10_wanted_28]
    simp only [gt_nil, true_and, eq_self, gt_aload_n, gt_rfk, gw_nth, gt_get_r, gt_get_i, gt_get_z, gt_iconst, gt_iaload, gt_iret, gt_retz, bkX10_wanted_28, ka0_0, ra0_0_0, ka0_1, ra0_1_8, ka0_20, la0_20, (show Int32.toNatClampNeg 0 = 0 from rfl), (show Int32.toNatClampNeg 1 = 1 from rfl)]
    refine ⟨(⟨by decide, by decide⟩ : gw_in 0 2), ?_⟩
    obtain rfl := gw_inj1 h
    exact ⟨hcc, hss, hq⟩
  replace h := gw_ifn h c_1
  refine ⟨fun c_2 => ?_, fun c_2 => ?_⟩
  · replace h := gw_ifp h c_2
    refine hK _ _ _ _ _ _ _ ?_
    rw [fdX10_wanted_38]
    simp only [gt_nil, true_and, eq_self, gt_aload_n, gt_rfk, gw_nth, gt_get_r, gt_get_i, gt_get_z, gt_iconst, gt_iaload, gt_iret, gt_retz, bkX10_wanted_38, ka0_0, ra0_0_0, ka0_1, ra0_1_8, ka0_20, la0_20, (show Int32.toNatClampNeg 0 = 0 from rfl), (show Int32.toNatClampNeg 1 = 1 from rfl)]
    refine ⟨(⟨by decide, by decide⟩ : gw_in 1 2), ?_⟩
    obtain rfl := gw_inj1 h
    exact ⟨hcc, hss, hq⟩
  replace h := gw_ifn h c_2
  refine ⟨fun c_3 => ?_, fun c_3 => ?_⟩
  · replace h := gw_ifp h c_3
    refine hK _ _ _ _ _ _ _ ?_
    rw [fdX10_wanted_48]
    simp only [gt_nil, true_and, eq_self, gt_aload_n, gt_rfk, gw_nth, gt_get_r, gt_get_i, gt_get_z, gt_iconst, gt_iaload, gt_ior, gt_iret, gt_retz, bkX10_wanted_48, ka0_0, ra0_0_0, ka0_1, ra0_1_8, ka0_20, la0_20, (show Int32.toNatClampNeg 0 = 0 from rfl), (show Int32.toNatClampNeg 1 = 1 from rfl)]
    refine ⟨(⟨by decide, by decide⟩ : gw_in 0 2), ?_⟩
    refine ⟨(⟨by decide, by decide⟩ : gw_in 1 2), ?_⟩
    obtain rfl := gw_inj1 h
    exact ⟨hcc, hss, hq⟩
  replace h := gw_ifn h c_3
  refine hK _ _ _ _ _ _ _ ?_
  rw [fdX10_wanted_68]
  simp only [gt_nil, true_and, eq_self, gt_iconst, gt_iret, gt_retz, bkX10_wanted_68, ka0_0, ra0_0_0, ka0_1, ra0_1_8, ka0_20, la0_20, (show Int32.toNatClampNeg 0 = 0 from rfl), (show Int32.toNatClampNeg 1 = 1 from rfl)]
  obtain rfl := gw_inj1 h
  exact ⟨hcc, hss, hq⟩
def F_X10_whose (n0 : Nat) (a0 : Nat) (v1 : Int32) (μ : gw_M) : Option (Int32) := (F_X10_isEvent n0 v1 μ).bind (fun (r_1 : Int32) => (if r_1 = 0 then some (-1) else (F_X3_seerOfInner n0 (a0 + 1) v1 μ).bind (fun (r_6 : Int32) => some r_6)))
theorem ok_X10_whose {l : Launch} {x : gw_C} {d : Nat} {S : gw_S} {Q : Option Value → gw_S → gw_M → Prop} {v1 : Int32} {a0 : Nat} {n0 : Nat} {μ : gw_M} {r} (hS0 : gw_sh S 10 a0) (h : F_X10_whose n0 a0 v1 μ = some r) (hq : Q (some (.int r)) S μ) : gw_ok l x (d + 3) sgX10_whose 0 0 [.ref a0, .int v1] S μ Q := by
  refine gw_ok_of stX10_whose (lv0 := [.ref a0, .int v1]) (Nat.le_of_ble_eq_true rfl) rfl rfl ?_
  intro K hK
  have hcc : 0 ≤ 0 := Nat.zero_le _
  have hss : 0 ≤ 0 := Nat.zero_le _
  have ka0_0 : gw_kd S a0 = 10 := (hS0 0 _ rfl).1
  have ra0_0_0 : gw_rf S a0 0 = a0 + 1 := (hS0 0 _ rfl).2.2 (0, 1) (by decide)
  have ka0_1 : gw_kd S (a0 + 1) = 3 := (hS0 1 _ rfl).1
  unfold F_X10_whose at h
  refine hK _ _ _ _ _ _ _ ?_
  rw [fdX10_whose_0]
  simp only [gt_nil, true_and, eq_self, gt_iload_n, gt_ink, gw_nth, gt_s1_0, gt_s2_0, gt_s3_0, gt_s4_0, gt_s1_1, gt_s2_1, gt_s3_1, gt_s4_1, gt_acpy, gt_if, gt_aload_n, gt_rfk, gt_get_r, gt_get_i, gt_get_z, gt_v0, gt_v1, gt_v2, gt_v3, gt_v4, gt_v5, gt_goto, bkX10_whose_0, ka0_0, ra0_0_0, ka0_1]
  obtain ⟨r_1, e_3, h⟩ := gw_bnd h
  refine ⟨rfl, 0, 0, hcc, hss, ok_X10_isEvent e_3 ?_⟩
  intro hbr_1
  simp only [gt_nil, true_and, eq_self, gt_if, gt_aload_n, gt_rfk, gw_nth, gt_get_r, gt_get_i, gt_get_z, gt_iload_n, gt_ink, gt_v0, gt_v1, gt_v2, gt_v3, gt_v4, gt_v5, gt_goto, Option.toList, List.cons_append, List.nil_append, Nat.add_zero, ka0_0, ra0_0_0, ka0_1]
  refine ⟨fun c_5 => ?_, fun c_5 => ?_⟩
  · replace h := gw_ifp h c_5
    refine hK _ _ _ _ _ _ _ ?_
    rw [fdX10_whose_18]
    simp only [gt_nil, true_and, eq_self, gt_iconst, bkX10_whose_18, ka0_0, ra0_0_0, ka0_1]
    refine hK _ _ _ _ _ _ _ ?_
    rw [fdX10_whose_19]
    simp only [gt_nil, true_and, eq_self, gt_iret, gt_retz, bkX10_whose_19, ka0_0, ra0_0_0, ka0_1]
    obtain rfl := gw_inj1 h
    exact ⟨hcc, hss, hq⟩
  · replace h := gw_ifn h c_5
    obtain ⟨r_6, e_8, h⟩ := gw_bnd h
    refine ⟨rfl, 0, 0, hcc, hss, ok_X3_seerOfInner (gw_sub hS0 3 1 (by decide +kernel)) e_8 ?_⟩
    simp only [gt_nil, true_and, eq_self, gt_goto, Option.toList, List.cons_append, List.nil_append, Nat.add_zero, ka0_0, ra0_0_0, ka0_1]
    refine hK _ _ _ _ _ _ _ ?_
    rw [fdX10_whose_19]
    simp only [gt_nil, true_and, eq_self, gt_iret, gt_retz, bkX10_whose_19, ka0_0, ra0_0_0, ka0_1]
    obtain rfl := gw_inj1 h
    exact ⟨hcc, hss, hq⟩
def F_X10_exit (n0 : Nat) (a0 : Nat) (v1 : Int32) (v2 : Int32) (μ : gw_M) : Option (Int32) := (if ¬ v1 = (-1) then (F_X2_exitAt n0 (a0 + 26) v1 v2 μ).bind (fun (r_2 : Int32) => some r_2) else (F_X2_exitsKept n0 (a0 + 26) μ).bind (fun (r_6 : Int32) => some r_6))
theorem ok_X10_exit {l : Launch} {x : gw_C} {d : Nat} {S : gw_S} {Q : Option Value → gw_S → gw_M → Prop} {v1 v2 : Int32} {a0 : Nat} {n0 : Nat} {μ : gw_M} {r} (hS0 : gw_sh S 10 a0) (h : F_X10_exit n0 a0 v1 v2 μ = some r) (hq : Q (some (.int r)) S μ) : gw_ok l x (d + 4) sgX10_exit 0 0 [.ref a0, .int v1, .int v2] S μ Q := by
  refine gw_ok_of stX10_exit (lv0 := [.ref a0, .int v1, .int v2]) (Nat.le_of_ble_eq_true rfl) rfl rfl ?_
  intro K hK
  have hcc : 0 ≤ 0 := Nat.zero_le _
  have hss : 0 ≤ 0 := Nat.zero_le _
  have ka0_0 : gw_kd S a0 = 10 := (hS0 0 _ rfl).1
  have ra0_0_0 : gw_rf S a0 0 = a0 + 1 := (hS0 0 _ rfl).2.2 (0, 1) (by decide)
  have ka0_1 : gw_kd S (a0 + 1) = 3 := (hS0 1 _ rfl).1
  have ra0_1_14 : gw_rf S (a0 + 1) 14 = a0 + 26 := (hS0 1 _ rfl).2.2 (14, 26) (by decide)
  have ka0_26 : gw_kd S (a0 + 26) = 2 := (hS0 26 _ rfl).1
  unfold F_X10_exit at h
  refine hK _ _ _ _ _ _ _ ?_
  rw [fdX10_exit_0]
  simp only [gt_nil, true_and, eq_self, gt_iload_n, gt_ink, gw_nth, gt_iconst, gt_icmp, gt_aload_n, gt_rfk, gt_get_r, gt_get_i, gt_get_z, gt_v0, gt_v1, gt_v2, gt_v3, gt_v4, gt_v5, gt_goto, bkX10_exit_0, ka0_0, ra0_0_0, ka0_1, ra0_1_14, ka0_26]
  refine ⟨fun c_1 => ?_, fun c_1 => ?_⟩
  · replace h := gw_ifp2 (gw_c2_ne _ _) h c_1
    refine hK _ _ _ _ _ _ _ ?_
    rw [fdX10_exit_18]
    simp only [gt_nil, true_and, eq_self, gt_aload_n, gt_rfk, gw_nth, gt_get_r, gt_get_i, gt_get_z, gt_iload_n, gt_ink, gt_v0, gt_v1, gt_v2, gt_v3, gt_v4, gt_v5, bkX10_exit_18, ka0_0, ra0_0_0, ka0_1, ra0_1_14, ka0_26]
    obtain ⟨r_2, e_4, h⟩ := gw_bnd h
    refine ⟨rfl, 0, 0, hcc, hss, ok_X2_exitAt (gw_sub hS0 2 26 (by decide +kernel)) e_4 ?_⟩
    simp only [gt_nil, true_and, eq_self, Option.toList, List.cons_append, List.nil_append, Nat.add_zero, ka0_0, ra0_0_0, ka0_1, ra0_1_14, ka0_26]
    refine hK _ _ _ _ _ _ _ ?_
    rw [fdX10_exit_30]
    simp only [gt_nil, true_and, eq_self, gt_iret, gt_retz, bkX10_exit_30, ka0_0, ra0_0_0, ka0_1, ra0_1_14, ka0_26]
    obtain rfl := gw_inj1 h
    exact ⟨hcc, hss, hq⟩
  · replace h := gw_ifn2 (gw_c2_ne _ _) h c_1
    obtain ⟨r_6, e_8, h⟩ := gw_bnd h
    refine ⟨rfl, 0, 0, hcc, hss, ok_X2_exitsKept (gw_sub hS0 2 26 (by decide +kernel)) e_8 ?_⟩
    simp only [gt_nil, true_and, eq_self, gt_goto, Option.toList, List.cons_append, List.nil_append, Nat.add_zero, ka0_0, ra0_0_0, ka0_1, ra0_1_14, ka0_26]
    refine hK _ _ _ _ _ _ _ ?_
    rw [fdX10_exit_30]
    simp only [gt_nil, true_and, eq_self, gt_iret, gt_retz, bkX10_exit_30, ka0_0, ra0_0_0, ka0_1, ra0_1_14, ka0_26]
    obtain rfl := gw_inj1 h
    exact ⟨hcc, hss, hq⟩
def F_X10_exits (n0 : Nat) (a0 : Nat) (v1 : Int32) (μ : gw_M) : Option (Int32) := (F_X2_exitsBy n0 (a0 + 26) v1 μ).bind (fun (r_1 : Int32) => some r_1)
theorem ok_X10_exits {l : Launch} {x : gw_C} {d : Nat} {S : gw_S} {Q : Option Value → gw_S → gw_M → Prop} {v1 : Int32} {a0 : Nat} {n0 : Nat} {μ : gw_M} {r} (hS0 : gw_sh S 10 a0) (h : F_X10_exits n0 a0 v1 μ = some r) (hq : Q (some (.int r)) S μ) : gw_ok l x (d + 4) sgX10_exits 0 0 [.ref a0, .int v1] S μ Q := by
  refine gw_ok_of stX10_exits (lv0 := [.ref a0, .int v1]) (Nat.le_of_ble_eq_true rfl) rfl rfl ?_
  intro K hK
  have hcc : 0 ≤ 0 := Nat.zero_le _
  have hss : 0 ≤ 0 := Nat.zero_le _
  have ka0_0 : gw_kd S a0 = 10 := (hS0 0 _ rfl).1
  have ra0_0_0 : gw_rf S a0 0 = a0 + 1 := (hS0 0 _ rfl).2.2 (0, 1) (by decide)
  have ka0_1 : gw_kd S (a0 + 1) = 3 := (hS0 1 _ rfl).1
  have ra0_1_14 : gw_rf S (a0 + 1) 14 = a0 + 26 := (hS0 1 _ rfl).2.2 (14, 26) (by decide)
  have ka0_26 : gw_kd S (a0 + 26) = 2 := (hS0 26 _ rfl).1
  unfold F_X10_exits at h
  refine hK _ _ _ _ _ _ _ ?_
  rw [fdX10_exits_0]
  simp only [gt_nil, true_and, eq_self, gt_aload_n, gt_rfk, gw_nth, gt_get_r, gt_get_i, gt_get_z, gt_iload_n, gt_ink, gt_v0, gt_v1, gt_v2, gt_v3, gt_v4, gt_v5, gt_iret, gt_retz, bkX10_exits_0, ka0_0, ra0_0_0, ka0_1, ra0_1_14, ka0_26]
  obtain ⟨r_1, e_3, h⟩ := gw_bnd h
  refine ⟨rfl, 0, 0, hcc, hss, ok_X2_exitsBy (gw_sub hS0 2 26 (by decide +kernel)) e_3 ?_⟩
  simp only [gt_nil, true_and, eq_self, gt_iret, gt_retz, Option.toList, List.cons_append, List.nil_append, Nat.add_zero, ka0_0, ra0_0_0, ka0_1, ra0_1_14, ka0_26]
  obtain rfl := gw_inj1 h
  exact ⟨hcc, hss, hq⟩
def F_X10_pending (n0 : Nat) (a0 : Nat) (v1 : Int32) (μ : gw_M) : Option (Int32) := (F_X10_isGuest n0 v1 μ).bind (fun (r_1 : Int32) => (if r_1 = 0 then some (-1) else (F_X3_guest n0 (a0 + 1) v1 μ).bind (fun (r_6 : Nat) => some (μ r_6 2))))
theorem ok_X10_pending {l : Launch} {x : gw_C} {d : Nat} {S : gw_S} {Q : Option Value → gw_S → gw_M → Prop} {v1 : Int32} {a0 : Nat} {n0 : Nat} {μ : gw_M} {r} (hS0 : gw_sh S 10 a0) (h : F_X10_pending n0 a0 v1 μ = some r) (hq : Q (some (.int r)) S μ) : gw_ok l x (d + 2) sgX10_pending 0 0 [.ref a0, .int v1] S μ Q := by
  refine gw_ok_of stX10_pending (lv0 := [.ref a0, .int v1]) (Nat.le_of_ble_eq_true rfl) rfl rfl ?_
  intro K hK
  have hcc : 0 ≤ 0 := Nat.zero_le _
  have hss : 0 ≤ 0 := Nat.zero_le _
  have ka0_0 : gw_kd S a0 = 10 := (hS0 0 _ rfl).1
  have ra0_0_0 : gw_rf S a0 0 = a0 + 1 := (hS0 0 _ rfl).2.2 (0, 1) (by decide)
  have ka0_1 : gw_kd S (a0 + 1) = 3 := (hS0 1 _ rfl).1
  unfold F_X10_pending at h
  refine hK _ _ _ _ _ _ _ ?_
  rw [fdX10_pending_0]
  simp only [gt_nil, true_and, eq_self, gt_iload_n, gt_ink, gw_nth, gt_s1_0, gt_s2_0, gt_s3_0, gt_s4_0, gt_s1_1, gt_s2_1, gt_s3_1, gt_s4_1, gt_acpy, gt_if, gt_aload_n, gt_rfk, gt_get_r, gt_get_i, gt_get_z, gt_v0, gt_v1, gt_v2, gt_v3, gt_v4, gt_v5, gt_goto, bkX10_pending_0, ka0_0, ra0_0_0, ka0_1]
  obtain ⟨r_1, e_3, h⟩ := gw_bnd h
  refine ⟨rfl, 0, 0, hcc, hss, ok_X10_isGuest e_3 ?_⟩
  intro hbr_1
  simp only [gt_nil, true_and, eq_self, gt_if, gt_aload_n, gt_rfk, gw_nth, gt_get_r, gt_get_i, gt_get_z, gt_iload_n, gt_ink, gt_v0, gt_v1, gt_v2, gt_v3, gt_v4, gt_v5, gt_goto, Option.toList, List.cons_append, List.nil_append, Nat.add_zero, ka0_0, ra0_0_0, ka0_1]
  refine ⟨fun c_5 => ?_, fun c_5 => ?_⟩
  · replace h := gw_ifp h c_5
    refine hK _ _ _ _ _ _ _ ?_
    rw [fdX10_pending_21]
    simp only [gt_nil, true_and, eq_self, gt_iconst, bkX10_pending_21, ka0_0, ra0_0_0, ka0_1]
    refine hK _ _ _ _ _ _ _ ?_
    rw [fdX10_pending_22]
    simp only [gt_nil, true_and, eq_self, gt_iret, gt_retz, bkX10_pending_22, ka0_0, ra0_0_0, ka0_1]
    obtain rfl := gw_inj1 h
    exact ⟨hcc, hss, hq⟩
  · replace h := gw_ifn h c_5
    obtain ⟨r_6, e_8, h⟩ := gw_bnd h
    refine ⟨rfl, 0, 0, hcc, hss, ok_X3_guest (gw_sub hS0 3 1 (by decide +kernel)) e_8 ?_⟩
    intro hsr_6
    have kr_6_0 : gw_kd S r_6 = 0 := (hsr_6 0 _ rfl).1
    simp only [gt_nil, true_and, eq_self, gt_get_r, gt_get_i, gt_get_z, gt_goto, Option.toList, List.cons_append, List.nil_append, Nat.add_zero, ka0_0, ra0_0_0, ka0_1, kr_6_0]
    refine hK _ _ _ _ _ _ _ ?_
    rw [fdX10_pending_22]
    simp only [gt_nil, true_and, eq_self, gt_iret, gt_retz, bkX10_pending_22, ka0_0, ra0_0_0, ka0_1, kr_6_0]
    obtain rfl := gw_inj1 h
    exact ⟨hcc, hss, hq⟩
def F_X10_service (n0 : Nat) (a0 : Nat) (v1 : Int32) (μ : gw_M) : Option (Int32) := (F_X10_isGuest n0 v1 μ).bind (fun (r_1 : Int32) => (if r_1 = 0 then some (-1) else (F_X3_guest n0 (a0 + 1) v1 μ).bind (fun (r_6 : Nat) => some (μ r_6 3))))
theorem ok_X10_service {l : Launch} {x : gw_C} {d : Nat} {S : gw_S} {Q : Option Value → gw_S → gw_M → Prop} {v1 : Int32} {a0 : Nat} {n0 : Nat} {μ : gw_M} {r} (hS0 : gw_sh S 10 a0) (h : F_X10_service n0 a0 v1 μ = some r) (hq : Q (some (.int r)) S μ) : gw_ok l x (d + 2) sgX10_service 0 0 [.ref a0, .int v1] S μ Q := by
  refine gw_ok_of stX10_service (lv0 := [.ref a0, .int v1]) (Nat.le_of_ble_eq_true rfl) rfl rfl ?_
  intro K hK
  have hcc : 0 ≤ 0 := Nat.zero_le _
  have hss : 0 ≤ 0 := Nat.zero_le _
  have ka0_0 : gw_kd S a0 = 10 := (hS0 0 _ rfl).1
  have ra0_0_0 : gw_rf S a0 0 = a0 + 1 := (hS0 0 _ rfl).2.2 (0, 1) (by decide)
  have ka0_1 : gw_kd S (a0 + 1) = 3 := (hS0 1 _ rfl).1
  unfold F_X10_service at h
  refine hK _ _ _ _ _ _ _ ?_
  rw [fdX10_service_0]
  simp only [gt_nil, true_and, eq_self, gt_iload_n, gt_ink, gw_nth, gt_s1_0, gt_s2_0, gt_s3_0, gt_s4_0, gt_s1_1, gt_s2_1, gt_s3_1, gt_s4_1, gt_acpy, gt_if, gt_aload_n, gt_rfk, gt_get_r, gt_get_i, gt_get_z, gt_v0, gt_v1, gt_v2, gt_v3, gt_v4, gt_v5, gt_goto, bkX10_service_0, ka0_0, ra0_0_0, ka0_1]
  obtain ⟨r_1, e_3, h⟩ := gw_bnd h
  refine ⟨rfl, 0, 0, hcc, hss, ok_X10_isGuest e_3 ?_⟩
  intro hbr_1
  simp only [gt_nil, true_and, eq_self, gt_if, gt_aload_n, gt_rfk, gw_nth, gt_get_r, gt_get_i, gt_get_z, gt_iload_n, gt_ink, gt_v0, gt_v1, gt_v2, gt_v3, gt_v4, gt_v5, gt_goto, Option.toList, List.cons_append, List.nil_append, Nat.add_zero, ka0_0, ra0_0_0, ka0_1]
  refine ⟨fun c_5 => ?_, fun c_5 => ?_⟩
  · replace h := gw_ifp h c_5
    refine hK _ _ _ _ _ _ _ ?_
    rw [fdX10_service_21]
    simp only [gt_nil, true_and, eq_self, gt_iconst, bkX10_service_21, ka0_0, ra0_0_0, ka0_1]
    refine hK _ _ _ _ _ _ _ ?_
    rw [fdX10_service_22]
    simp only [gt_nil, true_and, eq_self, gt_iret, gt_retz, bkX10_service_22, ka0_0, ra0_0_0, ka0_1]
    obtain rfl := gw_inj1 h
    exact ⟨hcc, hss, hq⟩
  · replace h := gw_ifn h c_5
    obtain ⟨r_6, e_8, h⟩ := gw_bnd h
    refine ⟨rfl, 0, 0, hcc, hss, ok_X3_guest (gw_sub hS0 3 1 (by decide +kernel)) e_8 ?_⟩
    intro hsr_6
    have kr_6_0 : gw_kd S r_6 = 0 := (hsr_6 0 _ rfl).1
    simp only [gt_nil, true_and, eq_self, gt_get_r, gt_get_i, gt_get_z, gt_goto, Option.toList, List.cons_append, List.nil_append, Nat.add_zero, ka0_0, ra0_0_0, ka0_1, kr_6_0]
    refine hK _ _ _ _ _ _ _ ?_
    rw [fdX10_service_22]
    simp only [gt_nil, true_and, eq_self, gt_iret, gt_retz, bkX10_service_22, ka0_0, ra0_0_0, ka0_1, kr_6_0]
    obtain rfl := gw_inj1 h
    exact ⟨hcc, hss, hq⟩
def F_X10_putBy (n0 : Nat) (a0 : Nat) (v1 : Int32) (v2 : Int32) (μ : gw_M) : Option (Int32) := (F_X10_isInnerGuest n0 v1 μ).bind (fun (r_1 : Int32) => (if r_1 = 0 then some (-1) else (if ¬ v1 = (μ (a0 + 1) 5) then (if 0 ≤ v1 ∧ v1.toNatClampNeg < 3 then gw_let (a0 + 38 + 15 * v1.toNatClampNeg) (fun (q_8 : Nat) => (if v2 = (0 : Int32) then (F_X8_size n0 (q_8 + 7) μ).bind (fun (r_10 : Int32) => some r_10) else (if v2 = ((0 : Int32) + 1) then (F_X8_size n0 (q_8 + 11) μ).bind (fun (r_15 : Int32) => some r_15) else (if v2 = (((0 : Int32) + 1) + 1) then some (μ (q_8 + 2) 4) else (if v2 = ((((0 : Int32) + 1) + 1) + 1) then some (μ (q_8 + 1) 2) else (if v2 = (((((0 : Int32) + 1) + 1) + 1) + 1) then some (μ (q_8 + 1) 3) else (if v2 = ((((((0 : Int32) + 1) + 1) + 1) + 1) + 1) then (if (μ (q_8 + 1) 4) = 0 then some 0 else some 1) else (if v2 = (((((((0 : Int32) + 1) + 1) + 1) + 1) + 1) + 1) then some (μ (q_8 + 2) 3) else some (-1))))))))) else none) else some (-1))))
theorem ok_X10_putBy {l : Launch} {x : gw_C} {d : Nat} {S : gw_S} {Q : Option Value → gw_S → gw_M → Prop} {v1 v2 : Int32} {a0 : Nat} {n0 : Nat} {μ : gw_M} {r} (hS0 : gw_sh S 10 a0) (h : F_X10_putBy n0 a0 v1 v2 μ = some r) (hq : Q (some (.int r)) S μ) : gw_ok l x (d + 3) sgX10_putBy 0 0 [.ref a0, .int v1, .int v2] S μ Q := by
  refine gw_ok_of stX10_putBy (lv0 := [.ref a0, .int v1, .int v2, .retAddr 0]) (Nat.le_of_ble_eq_true rfl) rfl rfl ?_
  intro K hK
  have hcc : 0 ≤ 0 := Nat.zero_le _
  have hss : 0 ≤ 0 := Nat.zero_le _
  have ka0_0 : gw_kd S a0 = 10 := (hS0 0 _ rfl).1
  have ra0_0_0 : gw_rf S a0 0 = a0 + 1 := (hS0 0 _ rfl).2.2 (0, 1) (by decide)
  have ka0_1 : gw_kd S (a0 + 1) = 3 := (hS0 1 _ rfl).1
  have ra0_1_4 : gw_rf S (a0 + 1) 4 = a0 + 19 := (hS0 1 _ rfl).2.2 (4, 19) (by decide)
  have ka0_19 : gw_kd S (a0 + 19) = 13 := (hS0 19 _ rfl).1
  have la0_19 : gw_ln S (a0 + 19) = 3 := (hS0 19 _ rfl).2.1
  unfold F_X10_putBy at h
  refine hK _ _ _ _ _ _ _ ?_
  rw [fdX10_putBy_0]
  simp only [gt_nil, true_and, eq_self, gt_iload_n, gt_ink, gw_nth, gt_s1_0, gt_s2_0, gt_s3_0, gt_s4_0, gt_s1_1, gt_s2_1, gt_s3_1, gt_s4_1, gt_acpy, gt_if, gt_aload_n, gt_rfk, gt_get_r, gt_get_i, gt_get_z, gt_icmp, bkX10_putBy_0, ka0_0, ra0_0_0, ka0_1, ra0_1_4, ka0_19, la0_19]
  obtain ⟨r_1, e_3, h⟩ := gw_bnd h
  refine ⟨rfl, 0, 0, hcc, hss, ok_X10_isInnerGuest e_3 ?_⟩
  intro hbr_1
  simp only [gt_nil, true_and, eq_self, gt_if, gt_iload_n, gt_ink, gw_nth, gt_aload_n, gt_rfk, gt_get_r, gt_get_i, gt_get_z, gt_icmp, Option.toList, List.cons_append, List.nil_append, Nat.add_zero, ka0_0, ra0_0_0, ka0_1, ra0_1_4, ka0_19, la0_19]
  refine ⟨fun c_5 => ?_, fun c_5 => ?_⟩
  · replace h := gw_ifp h c_5
    refine hK _ _ _ _ _ _ _ ?_
    rw [fdX10_putBy_18]
    simp only [gt_nil, true_and, eq_self, gt_iconst, gt_iret, gt_retz, bkX10_putBy_18, ka0_0, ra0_0_0, ka0_1, ra0_1_4, ka0_19, la0_19]
    obtain rfl := gw_inj1 h
    exact ⟨hcc, hss, hq⟩
  · replace h := gw_ifn h c_5
    refine ⟨fun c_6 => ?_, fun c_6 => ?_⟩
    · replace h := gw_ifp2 (gw_c2_ne _ _) h c_6
      refine hK _ _ _ _ _ _ _ ?_
      rw [fdX10_putBy_20]
      simp only [gt_nil, true_and, eq_self, gt_aload_n, gt_rfk, gw_nth, gt_get_r, gt_get_i, gt_get_z, gt_iload_n, gt_ink, gt_aaload, true_or, or_true, gt_astore_n, gw_set, gt_tsw, gw_sw, bkX10_putBy_20, ka0_0, ra0_0_0, ka0_1, ra0_1_4, ka0_19, la0_19]
      obtain ⟨c_7, h⟩ := gw_ife h
      refine ⟨c_7, ?_⟩
      obtain ⟨q_8, hq_8, h⟩ := gw_lt h
      obtain ⟨hsq_8, hrq_8⟩ : gw_sh S 1 (a0 + 38 + 15 * v1.toNatClampNeg) ∧ gw_rf S (a0 + 19) v1.toNatClampNeg = a0 + 38 + 15 * v1.toNatClampNeg := gw_sub_in (gw_sub hS0 3 1 (by decide +kernel)) c_7.2
      rw [← hq_8] at hsq_8 hrq_8
      have kq_8_0 : gw_kd S q_8 = 1 := (hsq_8 0 _ rfl).1
      have rq_8_0_0 : gw_rf S q_8 0 = q_8 + 1 := (hsq_8 0 _ rfl).2.2 (0, 1) (by decide)
      have rq_8_0_1 : gw_rf S q_8 1 = q_8 + 7 := (hsq_8 0 _ rfl).2.2 (1, 7) (by decide)
      have rq_8_0_2 : gw_rf S q_8 2 = q_8 + 11 := (hsq_8 0 _ rfl).2.2 (2, 11) (by decide)
      have kq_8_1 : gw_kd S (q_8 + 1) = 0 := (hsq_8 1 _ rfl).1
      have rq_8_1_0 : gw_rf S (q_8 + 1) 0 = q_8 + 2 := (hsq_8 1 _ rfl).2.2 (0, 2) (by decide)
      have kq_8_11 : gw_kd S (q_8 + 11) = 8 := (hsq_8 11 _ rfl).1
      have kq_8_2 : gw_kd S (q_8 + 2) = 7 := (hsq_8 2 _ rfl).1
      have kq_8_7 : gw_kd S (q_8 + 7) = 8 := (hsq_8 7 _ rfl).1
      simp only [gt_nil, true_and, eq_self, gt_astore_n, gw_set, gt_iload_n, gt_ink, gw_nth, gt_tsw, gw_sw, hrq_8, ka0_0, ra0_0_0, ka0_1, ra0_1_4, ka0_19, la0_19, kq_8_0, rq_8_0_0, rq_8_0_1, rq_8_0_2, kq_8_1, rq_8_1_0, kq_8_11, kq_8_2, kq_8_7]
      refine ⟨fun c_9 => ?_, fun c_9 => ?_⟩
      · replace h := gw_ifp h c_9
        refine hK _ _ _ _ _ _ _ ?_
        rw [fdX10_putBy_72]
        simp only [gt_nil, true_and, eq_self, gt_aload_n, gt_rfk, gw_nth, gt_get_r, gt_get_i, gt_get_z, gt_v0, gt_v1, gt_v2, gt_v3, gt_v4, gt_v5, gt_iret, gt_retz, bkX10_putBy_72, ka0_0, ra0_0_0, ka0_1, ra0_1_4, ka0_19, la0_19, kq_8_0, rq_8_0_0, rq_8_0_1, rq_8_0_2, kq_8_1, rq_8_1_0, kq_8_11, kq_8_2, kq_8_7]
        obtain ⟨r_10, e_12, h⟩ := gw_bnd h
        refine ⟨rfl, 0, 0, hcc, hss, ok_X8_size (gw_sub hsq_8 8 7 (by decide +kernel)) e_12 ?_⟩
        simp only [gt_nil, true_and, eq_self, gt_iret, gt_retz, Option.toList, List.cons_append, List.nil_append, Nat.add_zero, ka0_0, ra0_0_0, ka0_1, ra0_1_4, ka0_19, la0_19, kq_8_0, rq_8_0_0, rq_8_0_1, rq_8_0_2, kq_8_1, rq_8_1_0, kq_8_11, kq_8_2, kq_8_7]
        obtain rfl := gw_inj1 h
        exact ⟨hcc, hss, hq⟩
      replace h := gw_ifn h c_9
      refine ⟨fun c_14 => ?_, fun c_14 => ?_⟩
      · replace h := gw_ifp h c_14
        refine hK _ _ _ _ _ _ _ ?_
        rw [fdX10_putBy_80]
        simp only [gt_nil, true_and, eq_self, gt_aload_n, gt_rfk, gw_nth, gt_get_r, gt_get_i, gt_get_z, gt_v0, gt_v1, gt_v2, gt_v3, gt_v4, gt_v5, gt_iret, gt_retz, bkX10_putBy_80, ka0_0, ra0_0_0, ka0_1, ra0_1_4, ka0_19, la0_19, kq_8_0, rq_8_0_0, rq_8_0_1, rq_8_0_2, kq_8_1, rq_8_1_0, kq_8_11, kq_8_2, kq_8_7]
        obtain ⟨r_15, e_17, h⟩ := gw_bnd h
        refine ⟨rfl, 0, 0, hcc, hss, ok_X8_size (gw_sub hsq_8 8 11 (by decide +kernel)) e_17 ?_⟩
        simp only [gt_nil, true_and, eq_self, gt_iret, gt_retz, Option.toList, List.cons_append, List.nil_append, Nat.add_zero, ka0_0, ra0_0_0, ka0_1, ra0_1_4, ka0_19, la0_19, kq_8_0, rq_8_0_0, rq_8_0_1, rq_8_0_2, kq_8_1, rq_8_1_0, kq_8_11, kq_8_2, kq_8_7]
        obtain rfl := gw_inj1 h
        exact ⟨hcc, hss, hq⟩
      replace h := gw_ifn h c_14
      refine ⟨fun c_19 => ?_, fun c_19 => ?_⟩
      · replace h := gw_ifp h c_19
        refine hK _ _ _ _ _ _ _ ?_
        rw [fdX10_putBy_88]
        simp only [gt_nil, true_and, eq_self, gt_aload_n, gt_rfk, gw_nth, gt_get_r, gt_get_i, gt_get_z, gt_iret, gt_retz, bkX10_putBy_88, ka0_0, ra0_0_0, ka0_1, ra0_1_4, ka0_19, la0_19, kq_8_0, rq_8_0_0, rq_8_0_1, rq_8_0_2, kq_8_1, rq_8_1_0, kq_8_11, kq_8_2, kq_8_7]
        obtain rfl := gw_inj1 h
        exact ⟨hcc, hss, hq⟩
      replace h := gw_ifn h c_19
      refine ⟨fun c_20 => ?_, fun c_20 => ?_⟩
      · replace h := gw_ifp h c_20
        refine hK _ _ _ _ _ _ _ ?_
        rw [fdX10_putBy_99]
        simp only [gt_nil, true_and, eq_self, gt_aload_n, gt_rfk, gw_nth, gt_get_r, gt_get_i, gt_get_z, gt_iret, gt_retz, bkX10_putBy_99, ka0_0, ra0_0_0, ka0_1, ra0_1_4, ka0_19, la0_19, kq_8_0, rq_8_0_0, rq_8_0_1, rq_8_0_2, kq_8_1, rq_8_1_0, kq_8_11, kq_8_2, kq_8_7]
        obtain rfl := gw_inj1 h
        exact ⟨hcc, hss, hq⟩
      replace h := gw_ifn h c_20
      refine ⟨fun c_21 => ?_, fun c_21 => ?_⟩
      · replace h := gw_ifp h c_21
        refine hK _ _ _ _ _ _ _ ?_
        rw [fdX10_putBy_107]
        simp only [gt_nil, true_and, eq_self, gt_aload_n, gt_rfk, gw_nth, gt_get_r, gt_get_i, gt_get_z, gt_iret, gt_retz, bkX10_putBy_107, ka0_0, ra0_0_0, ka0_1, ra0_1_4, ka0_19, la0_19, kq_8_0, rq_8_0_0, rq_8_0_1, rq_8_0_2, kq_8_1, rq_8_1_0, kq_8_11, kq_8_2, kq_8_7]
        obtain rfl := gw_inj1 h
        exact ⟨hcc, hss, hq⟩
      replace h := gw_ifn h c_21
      refine ⟨fun c_22 => ?_, fun c_22 => ?_⟩
      · replace h := gw_ifp h c_22
        refine hK _ _ _ _ _ _ _ ?_
        rw [fdX10_putBy_115]
        simp only [gt_nil, true_and, eq_self, gt_aload_n, gt_rfk, gw_nth, gt_get_r, gt_get_i, gt_get_z, gt_if, gt_iconst, gt_goto, bkX10_putBy_115, ka0_0, ra0_0_0, ka0_1, ra0_1_4, ka0_19, la0_19, kq_8_0, rq_8_0_0, rq_8_0_1, rq_8_0_2, kq_8_1, rq_8_1_0, kq_8_11, kq_8_2, kq_8_7]
        refine ⟨fun c_23 => ?_, fun c_23 => ?_⟩
        · replace h := gw_ifp h c_23
          refine hK _ _ _ _ _ _ _ ?_
          rw [fdX10_putBy_129]
          simp only [gt_nil, true_and, eq_self, gt_iconst, bkX10_putBy_129, ka0_0, ra0_0_0, ka0_1, ra0_1_4, ka0_19, la0_19, kq_8_0, rq_8_0_0, rq_8_0_1, rq_8_0_2, kq_8_1, rq_8_1_0, kq_8_11, kq_8_2, kq_8_7]
          refine hK _ _ _ _ _ _ _ ?_
          rw [fdX10_putBy_130]
          simp only [gt_nil, true_and, eq_self, gt_iret, gt_retz, bkX10_putBy_130, ka0_0, ra0_0_0, ka0_1, ra0_1_4, ka0_19, la0_19, kq_8_0, rq_8_0_0, rq_8_0_1, rq_8_0_2, kq_8_1, rq_8_1_0, kq_8_11, kq_8_2, kq_8_7]
          obtain rfl := gw_inj1 h
          exact ⟨hcc, hss, hq⟩
        · replace h := gw_ifn h c_23
          refine hK _ _ _ _ _ _ _ ?_
          rw [fdX10_putBy_130]
          simp only [gt_nil, true_and, eq_self, gt_iret, gt_retz, bkX10_putBy_130, ka0_0, ra0_0_0, ka0_1, ra0_1_4, ka0_19, la0_19, kq_8_0, rq_8_0_0, rq_8_0_1, rq_8_0_2, kq_8_1, rq_8_1_0, kq_8_11, kq_8_2, kq_8_7]
          obtain rfl := gw_inj1 h
          exact ⟨hcc, hss, hq⟩
      replace h := gw_ifn h c_22
      refine ⟨fun c_24 => ?_, fun c_24 => ?_⟩
      · replace h := gw_ifp h c_24
        refine hK _ _ _ _ _ _ _ ?_
        rw [fdX10_putBy_131]
        simp only [gt_nil, true_and, eq_self, gt_aload_n, gt_rfk, gw_nth, gt_get_r, gt_get_i, gt_get_z, gt_iret, gt_retz, bkX10_putBy_131, ka0_0, ra0_0_0, ka0_1, ra0_1_4, ka0_19, la0_19, kq_8_0, rq_8_0_0, rq_8_0_1, rq_8_0_2, kq_8_1, rq_8_1_0, kq_8_11, kq_8_2, kq_8_7]
        obtain rfl := gw_inj1 h
        exact ⟨hcc, hss, hq⟩
      replace h := gw_ifn h c_24
      refine hK _ _ _ _ _ _ _ ?_
      rw [fdX10_putBy_142]
      simp only [gt_nil, true_and, eq_self, gt_iconst, gt_iret, gt_retz, bkX10_putBy_142, ka0_0, ra0_0_0, ka0_1, ra0_1_4, ka0_19, la0_19, kq_8_0, rq_8_0_0, rq_8_0_1, rq_8_0_2, kq_8_1, rq_8_1_0, kq_8_11, kq_8_2, kq_8_7]
      obtain rfl := gw_inj1 h
      exact ⟨hcc, hss, hq⟩
    · replace h := gw_ifn2 (gw_c2_ne _ _) h c_6
      refine hK _ _ _ _ _ _ _ ?_
      rw [fdX10_putBy_18]
      simp only [gt_nil, true_and, eq_self, gt_iconst, gt_iret, gt_retz, bkX10_putBy_18, ka0_0, ra0_0_0, ka0_1, ra0_1_4, ka0_19, la0_19]
      obtain rfl := gw_inj1 h
      exact ⟨hcc, hss, hq⟩
def F_X10_spent (n0 : Nat) (a0 : Nat) (v1 : Int32) (μ : gw_M) : Option (Int32) := (F_X10_within n0 v1 0 3 μ).bind (fun (r_1 : Int32) => (if r_1 = 0 then some (-1) else (if 0 ≤ v1 ∧ v1.toNatClampNeg < 4 then some (μ (a0 + 34) v1.toNatClampNeg) else none)))
theorem ok_X10_spent {l : Launch} {x : gw_C} {d : Nat} {S : gw_S} {Q : Option Value → gw_S → gw_M → Prop} {v1 : Int32} {a0 : Nat} {n0 : Nat} {μ : gw_M} {r} (hS0 : gw_sh S 10 a0) (h : F_X10_spent n0 a0 v1 μ = some r) (hq : Q (some (.int r)) S μ) : gw_ok l x (d + 2) sgX10_spent 0 0 [.ref a0, .int v1] S μ Q := by
  refine gw_ok_of stX10_spent (lv0 := [.ref a0, .int v1]) (Nat.le_of_ble_eq_true rfl) rfl rfl ?_
  intro K hK
  have hcc : 0 ≤ 0 := Nat.zero_le _
  have hss : 0 ≤ 0 := Nat.zero_le _
  have ka0_0 : gw_kd S a0 = 10 := (hS0 0 _ rfl).1
  have ra0_0_0 : gw_rf S a0 0 = a0 + 1 := (hS0 0 _ rfl).2.2 (0, 1) (by decide)
  have ka0_1 : gw_kd S (a0 + 1) = 3 := (hS0 1 _ rfl).1
  have ra0_1_14 : gw_rf S (a0 + 1) 14 = a0 + 26 := (hS0 1 _ rfl).2.2 (14, 26) (by decide)
  have ka0_26 : gw_kd S (a0 + 26) = 2 := (hS0 26 _ rfl).1
  have ra0_26_11 : gw_rf S (a0 + 26) 11 = a0 + 34 := (hS0 26 _ rfl).2.2 (11, 34) (by decide)
  have ka0_34 : gw_kd S (a0 + 34) = 12 := (hS0 34 _ rfl).1
  have la0_34 : gw_ln S (a0 + 34) = 4 := (hS0 34 _ rfl).2.1
  unfold F_X10_spent at h
  refine hK _ _ _ _ _ _ _ ?_
  rw [fdX10_spent_0]
  simp only [gt_nil, true_and, eq_self, gt_iload_n, gt_ink, gw_nth, gt_iconst, gt_s1_0, gt_s2_0, gt_s3_0, gt_s4_0, gt_s1_1, gt_s2_1, gt_s3_1, gt_s4_1, gt_acpy, gt_if, gt_aload_n, gt_rfk, gt_get_r, gt_get_i, gt_get_z, gt_iaload, gt_goto, bkX10_spent_0, ka0_0, ra0_0_0, ka0_1, ra0_1_14, ka0_26, ra0_26_11, ka0_34, la0_34]
  obtain ⟨r_1, e_3, h⟩ := gw_bnd h
  refine ⟨rfl, 0, 0, hcc, hss, ok_X10_within e_3 ?_⟩
  intro hbr_1
  simp only [gt_nil, true_and, eq_self, gt_if, gt_aload_n, gt_rfk, gw_nth, gt_get_r, gt_get_i, gt_get_z, gt_iload_n, gt_ink, gt_iaload, gt_goto, Option.toList, List.cons_append, List.nil_append, Nat.add_zero, ka0_0, ra0_0_0, ka0_1, ra0_1_14, ka0_26, ra0_26_11, ka0_34, la0_34]
  refine ⟨fun c_5 => ?_, fun c_5 => ?_⟩
  · replace h := gw_ifp h c_5
    refine hK _ _ _ _ _ _ _ ?_
    rw [fdX10_spent_24]
    simp only [gt_nil, true_and, eq_self, gt_iconst, bkX10_spent_24, ka0_0, ra0_0_0, ka0_1, ra0_1_14, ka0_26, ra0_26_11, ka0_34, la0_34]
    refine hK _ _ _ _ _ _ _ ?_
    rw [fdX10_spent_25]
    simp only [gt_nil, true_and, eq_self, gt_iret, gt_retz, bkX10_spent_25, ka0_0, ra0_0_0, ka0_1, ra0_1_14, ka0_26, ra0_26_11, ka0_34, la0_34]
    obtain rfl := gw_inj1 h
    exact ⟨hcc, hss, hq⟩
  · replace h := gw_ifn h c_5
    obtain ⟨c_6, h⟩ := gw_ife h
    refine ⟨c_6, ?_⟩
    refine hK _ _ _ _ _ _ _ ?_
    rw [fdX10_spent_25]
    simp only [gt_nil, true_and, eq_self, gt_iret, gt_retz, bkX10_spent_25, ka0_0, ra0_0_0, ka0_1, ra0_1_14, ka0_26, ra0_26_11, ka0_34, la0_34]
    obtain rfl := gw_inj1 h
    exact ⟨hcc, hss, hq⟩
def F_X10_seenOf_35 (n0 : Nat) (a0 : Nat) (μ : gw_M) : Option (Int32) := some (-1)
def F_X10_seenOf (n0 : Nat) (a0 : Nat) (v1 : Int32) (v2 : Int32) (μ : gw_M) : Option (Int32) := (F_X10_isEvent n0 v1 μ).bind (fun (r_1 : Int32) => (if r_1 = 0 then F_X10_seenOf_35 n0 a0 μ else (F_X10_within n0 v2 0 2 μ).bind (fun (r_6 : Int32) => (if r_6 = 0 then F_X10_seenOf_35 n0 a0 μ else (if 0 ≤ (((3 : Int32) * v1) + v2) ∧ (((3 : Int32) * v1) + v2).toNatClampNeg < 24 then some (μ (a0 + 33) (((3 : Int32) * v1) + v2).toNatClampNeg) else none)))))
theorem B_X10_seenOf_35 {l : Launch} {x : gw_C} {d : Nat} {S : gw_S} {Q : Option Value → gw_S → gw_M → Prop} {K : Nat → gw_Kt} {mc ms cc ss : Nat} (hcc : cc ≤ mc) (hss : ss ≤ ms) (hK : gw_cl l x (d + 2) mc ms bsX10_seenOf Q K) {a0 : Nat} (hS0 : gw_sh S 10 a0) {n0 : Nat}  {u1 u2 : Value} {μ : gw_M} {r} (h : F_X10_seenOf_35 n0 a0 μ = some r) (hq : Q (some (.int r)) S μ) : K 35 [.ref a0, u1, u2] [] S μ cc ss := by
  unfold F_X10_seenOf_35 at h
  refine hK _ _ _ _ _ _ _ ?_
  rw [fdX10_seenOf_35]
  simp only [gt_nil, true_and, eq_self, gt_iconst, bkX10_seenOf_35]
  refine hK _ _ _ _ _ _ _ ?_
  rw [fdX10_seenOf_36]
  simp only [gt_nil, true_and, eq_self, gt_iret, gt_retz, bkX10_seenOf_36]
  obtain rfl := gw_inj1 h
  exact ⟨hcc, hss, hq⟩
theorem ok_X10_seenOf {l : Launch} {x : gw_C} {d : Nat} {S : gw_S} {Q : Option Value → gw_S → gw_M → Prop} {v1 v2 : Int32} {a0 : Nat} {n0 : Nat} {μ : gw_M} {r} (hS0 : gw_sh S 10 a0) (h : F_X10_seenOf n0 a0 v1 v2 μ = some r) (hq : Q (some (.int r)) S μ) : gw_ok l x (d + 3) sgX10_seenOf 0 0 [.ref a0, .int v1, .int v2] S μ Q := by
  refine gw_ok_of stX10_seenOf (lv0 := [.ref a0, .int v1, .int v2]) (Nat.le_of_ble_eq_true rfl) rfl rfl ?_
  intro K hK
  have hcc : 0 ≤ 0 := Nat.zero_le _
  have hss : 0 ≤ 0 := Nat.zero_le _
  have ka0_0 : gw_kd S a0 = 10 := (hS0 0 _ rfl).1
  have ra0_0_0 : gw_rf S a0 0 = a0 + 1 := (hS0 0 _ rfl).2.2 (0, 1) (by decide)
  have ka0_1 : gw_kd S (a0 + 1) = 3 := (hS0 1 _ rfl).1
  have ra0_1_14 : gw_rf S (a0 + 1) 14 = a0 + 26 := (hS0 1 _ rfl).2.2 (14, 26) (by decide)
  have ka0_26 : gw_kd S (a0 + 26) = 2 := (hS0 26 _ rfl).1
  have ra0_26_10 : gw_rf S (a0 + 26) 10 = a0 + 33 := (hS0 26 _ rfl).2.2 (10, 33) (by decide)
  have ka0_33 : gw_kd S (a0 + 33) = 12 := (hS0 33 _ rfl).1
  have la0_33 : gw_ln S (a0 + 33) = 24 := (hS0 33 _ rfl).2.1
  unfold F_X10_seenOf at h
  refine hK _ _ _ _ _ _ _ ?_
  rw [fdX10_seenOf_0]
  simp only [gt_nil, true_and, eq_self, gt_iload_n, gt_ink, gw_nth, gt_s1_0, gt_s2_0, gt_s3_0, gt_s4_0, gt_s1_1, gt_s2_1, gt_s3_1, gt_s4_1, gt_acpy, gt_if, gt_iconst, gt_aload_n, gt_rfk, gt_get_r, gt_get_i, gt_get_z, gt_imul, gt_iadd, gt_iaload, gt_goto, bkX10_seenOf_0, ka0_0, ra0_0_0, ka0_1, ra0_1_14, ka0_26, ra0_26_10, ka0_33, la0_33]
  obtain ⟨r_1, e_3, h⟩ := gw_bnd h
  refine ⟨rfl, 0, 0, hcc, hss, ok_X10_isEvent e_3 ?_⟩
  intro hbr_1
  simp only [gt_nil, true_and, eq_self, gt_if, gt_iload_n, gt_ink, gw_nth, gt_iconst, gt_s1_0, gt_s2_0, gt_s3_0, gt_s4_0, gt_s1_1, gt_s2_1, gt_s3_1, gt_s4_1, gt_acpy, gt_aload_n, gt_rfk, gt_get_r, gt_get_i, gt_get_z, gt_imul, gt_iadd, gt_iaload, gt_goto, Option.toList, List.cons_append, List.nil_append, Nat.add_zero, ka0_0, ra0_0_0, ka0_1, ra0_1_14, ka0_26, ra0_26_10, ka0_33, la0_33]
  refine ⟨fun c_5 => ?_, fun c_5 => ?_⟩
  · replace h := gw_ifp h c_5
    exact B_X10_seenOf_35 hcc hss hK hS0 h hq
  · replace h := gw_ifn h c_5
    obtain ⟨r_6, e_8, h⟩ := gw_bnd h
    refine ⟨rfl, 0, 0, hcc, hss, ok_X10_within e_8 ?_⟩
    intro hbr_6
    simp only [gt_nil, true_and, eq_self, gt_if, gt_aload_n, gt_rfk, gw_nth, gt_get_r, gt_get_i, gt_get_z, gt_iconst, gt_iload_n, gt_ink, gt_imul, gt_iadd, gt_iaload, gt_goto, Option.toList, List.cons_append, List.nil_append, Nat.add_zero, ka0_0, ra0_0_0, ka0_1, ra0_1_14, ka0_26, ra0_26_10, ka0_33, la0_33]
    refine ⟨fun c_10 => ?_, fun c_10 => ?_⟩
    · replace h := gw_ifp h c_10
      exact B_X10_seenOf_35 hcc hss hK hS0 h hq
    · replace h := gw_ifn h c_10
      obtain ⟨c_11, h⟩ := gw_ife h
      refine ⟨c_11, ?_⟩
      refine hK _ _ _ _ _ _ _ ?_
      rw [fdX10_seenOf_36]
      simp only [gt_nil, true_and, eq_self, gt_iret, gt_retz, bkX10_seenOf_36, ka0_0, ra0_0_0, ka0_1, ra0_1_14, ka0_26, ra0_26_10, ka0_33, la0_33]
      obtain rfl := gw_inj1 h
      exact ⟨hcc, hss, hq⟩
def F_X10_isOpen_25 (n0 : Nat) (a0 : Nat) (μ : gw_M) : Option (Int32) := some 0
def F_X10_isOpen (n0 : Nat) (a0 : Nat) (v1 : Int32) (μ : gw_M) : Option (Int32) := (F_X10_isGuest n0 v1 μ).bind (fun (r_1 : Int32) => (if r_1 = 0 then F_X10_isOpen_25 n0 a0 μ else (F_X3_guest n0 (a0 + 1) v1 μ).bind (fun (r_6 : Nat) => (if (μ r_6 4) = 0 then F_X10_isOpen_25 n0 a0 μ else some 1))))
theorem B_X10_isOpen_25 {l : Launch} {x : gw_C} {d : Nat} {S : gw_S} {Q : Option Value → gw_S → gw_M → Prop} {K : Nat → gw_Kt} {mc ms cc ss : Nat} (hcc : cc ≤ mc) (hss : ss ≤ ms) (hK : gw_cl l x (d + 1) mc ms bsX10_isOpen Q K) {a0 : Nat} (hS0 : gw_sh S 10 a0) {n0 : Nat}  {u1 : Value} {μ : gw_M} {r} (h : F_X10_isOpen_25 n0 a0 μ = some r) (hq : ((r = 0 ∨ r = 1) → Q (some (.int r)) S μ)) : K 25 [.ref a0, u1] [] S μ cc ss := by
  unfold F_X10_isOpen_25 at h
  refine hK _ _ _ _ _ _ _ ?_
  rw [fdX10_isOpen_25]
  simp only [gt_nil, true_and, eq_self, gt_iconst, bkX10_isOpen_25]
  refine hK _ _ _ _ _ _ _ ?_
  rw [fdX10_isOpen_26]
  simp only [gt_nil, true_and, eq_self, gt_iret, gt_retz, bkX10_isOpen_26]
  obtain rfl := gw_inj1 h
  exact ⟨(Or.inl rfl), hcc, hss, hq (Or.inl rfl)⟩
theorem ok_X10_isOpen {l : Launch} {x : gw_C} {d : Nat} {S : gw_S} {Q : Option Value → gw_S → gw_M → Prop} {v1 : Int32} {a0 : Nat} {n0 : Nat} {μ : gw_M} {r} (hS0 : gw_sh S 10 a0) (h : F_X10_isOpen n0 a0 v1 μ = some r) (hq : ((r = 0 ∨ r = 1) → Q (some (.int r)) S μ)) : gw_ok l x (d + 2) sgX10_isOpen 0 0 [.ref a0, .int v1] S μ Q := by
  refine gw_ok_of stX10_isOpen (lv0 := [.ref a0, .int v1]) (Nat.le_of_ble_eq_true rfl) rfl rfl ?_
  intro K hK
  have hcc : 0 ≤ 0 := Nat.zero_le _
  have hss : 0 ≤ 0 := Nat.zero_le _
  have ka0_0 : gw_kd S a0 = 10 := (hS0 0 _ rfl).1
  have ra0_0_0 : gw_rf S a0 0 = a0 + 1 := (hS0 0 _ rfl).2.2 (0, 1) (by decide)
  have ka0_1 : gw_kd S (a0 + 1) = 3 := (hS0 1 _ rfl).1
  unfold F_X10_isOpen at h
  refine hK _ _ _ _ _ _ _ ?_
  rw [fdX10_isOpen_0]
  simp only [gt_nil, true_and, eq_self, gt_iload_n, gt_ink, gw_nth, gt_s1_0, gt_s2_0, gt_s3_0, gt_s4_0, gt_s1_1, gt_s2_1, gt_s3_1, gt_s4_1, gt_acpy, gt_if, gt_aload_n, gt_rfk, gt_get_r, gt_get_i, gt_get_z, gt_v0, gt_v1, gt_v2, gt_v3, gt_v4, gt_v5, gt_iconst, gt_goto, bkX10_isOpen_0, ka0_0, ra0_0_0, ka0_1]
  obtain ⟨r_1, e_3, h⟩ := gw_bnd h
  refine ⟨rfl, 0, 0, hcc, hss, ok_X10_isGuest e_3 ?_⟩
  intro hbr_1
  simp only [gt_nil, true_and, eq_self, gt_if, gt_aload_n, gt_rfk, gw_nth, gt_get_r, gt_get_i, gt_get_z, gt_iload_n, gt_ink, gt_v0, gt_v1, gt_v2, gt_v3, gt_v4, gt_v5, gt_iconst, gt_goto, Option.toList, List.cons_append, List.nil_append, Nat.add_zero, ka0_0, ra0_0_0, ka0_1]
  refine ⟨fun c_5 => ?_, fun c_5 => ?_⟩
  · replace h := gw_ifp h c_5
    exact B_X10_isOpen_25 hcc hss hK hS0 h hq
  · replace h := gw_ifn h c_5
    obtain ⟨r_6, e_8, h⟩ := gw_bnd h
    refine ⟨rfl, 0, 0, hcc, hss, ok_X3_guest (gw_sub hS0 3 1 (by decide +kernel)) e_8 ?_⟩
    intro hsr_6
    have kr_6_0 : gw_kd S r_6 = 0 := (hsr_6 0 _ rfl).1
    simp only [gt_nil, true_and, eq_self, gt_get_r, gt_get_i, gt_get_z, gt_if, gt_iconst, gt_goto, Option.toList, List.cons_append, List.nil_append, Nat.add_zero, ka0_0, ra0_0_0, ka0_1, kr_6_0]
    refine ⟨fun c_10 => ?_, fun c_10 => ?_⟩
    · replace h := gw_ifp h c_10
      exact B_X10_isOpen_25 hcc hss hK hS0 h hq
    · replace h := gw_ifn h c_10
      refine hK _ _ _ _ _ _ _ ?_
      rw [fdX10_isOpen_26]
      simp only [gt_nil, true_and, eq_self, gt_iret, gt_retz, bkX10_isOpen_26, ka0_0, ra0_0_0, ka0_1, kr_6_0]
      obtain rfl := gw_inj1 h
      exact ⟨(Or.inr rfl), hcc, hss, hq (Or.inr rfl)⟩
def F_X10_taken (n0 : Nat) (a0 : Nat) (v1 : Int32) (μ : gw_M) : Option (Int32) := (F_X10_isGuest n0 v1 μ).bind (fun (r_1 : Int32) => (if r_1 = 0 then some (-1) else (if 0 ≤ (v1 - (1 : Int32)) ∧ (v1 - (1 : Int32)).toNatClampNeg < 2 then some (μ (a0 + 36) (v1 - (1 : Int32)).toNatClampNeg) else none)))
theorem ok_X10_taken {l : Launch} {x : gw_C} {d : Nat} {S : gw_S} {Q : Option Value → gw_S → gw_M → Prop} {v1 : Int32} {a0 : Nat} {n0 : Nat} {μ : gw_M} {r} (hS0 : gw_sh S 10 a0) (h : F_X10_taken n0 a0 v1 μ = some r) (hq : Q (some (.int r)) S μ) : gw_ok l x (d + 2) sgX10_taken 0 0 [.ref a0, .int v1] S μ Q := by
  refine gw_ok_of stX10_taken (lv0 := [.ref a0, .int v1]) (Nat.le_of_ble_eq_true rfl) rfl rfl ?_
  intro K hK
  have hcc : 0 ≤ 0 := Nat.zero_le _
  have hss : 0 ≤ 0 := Nat.zero_le _
  have ka0_0 : gw_kd S a0 = 10 := (hS0 0 _ rfl).1
  have ra0_0_0 : gw_rf S a0 0 = a0 + 1 := (hS0 0 _ rfl).2.2 (0, 1) (by decide)
  have ka0_1 : gw_kd S (a0 + 1) = 3 := (hS0 1 _ rfl).1
  have ra0_1_14 : gw_rf S (a0 + 1) 14 = a0 + 26 := (hS0 1 _ rfl).2.2 (14, 26) (by decide)
  have ka0_26 : gw_kd S (a0 + 26) = 2 := (hS0 26 _ rfl).1
  have ra0_26_13 : gw_rf S (a0 + 26) 13 = a0 + 36 := (hS0 26 _ rfl).2.2 (13, 36) (by decide)
  have ka0_36 : gw_kd S (a0 + 36) = 12 := (hS0 36 _ rfl).1
  have la0_36 : gw_ln S (a0 + 36) = 2 := (hS0 36 _ rfl).2.1
  unfold F_X10_taken at h
  refine hK _ _ _ _ _ _ _ ?_
  rw [fdX10_taken_0]
  simp only [gt_nil, true_and, eq_self, gt_iload_n, gt_ink, gw_nth, gt_s1_0, gt_s2_0, gt_s3_0, gt_s4_0, gt_s1_1, gt_s2_1, gt_s3_1, gt_s4_1, gt_acpy, gt_if, gt_aload_n, gt_rfk, gt_get_r, gt_get_i, gt_get_z, gt_iconst, gt_isub, gt_iaload, gt_goto, bkX10_taken_0, ka0_0, ra0_0_0, ka0_1, ra0_1_14, ka0_26, ra0_26_13, ka0_36, la0_36]
  obtain ⟨r_1, e_3, h⟩ := gw_bnd h
  refine ⟨rfl, 0, 0, hcc, hss, ok_X10_isGuest e_3 ?_⟩
  intro hbr_1
  simp only [gt_nil, true_and, eq_self, gt_if, gt_aload_n, gt_rfk, gw_nth, gt_get_r, gt_get_i, gt_get_z, gt_iload_n, gt_ink, gt_iconst, gt_isub, gt_iaload, gt_goto, Option.toList, List.cons_append, List.nil_append, Nat.add_zero, ka0_0, ra0_0_0, ka0_1, ra0_1_14, ka0_26, ra0_26_13, ka0_36, la0_36]
  refine ⟨fun c_5 => ?_, fun c_5 => ?_⟩
  · replace h := gw_ifp h c_5
    refine hK _ _ _ _ _ _ _ ?_
    rw [fdX10_taken_24]
    simp only [gt_nil, true_and, eq_self, gt_iconst, bkX10_taken_24, ka0_0, ra0_0_0, ka0_1, ra0_1_14, ka0_26, ra0_26_13, ka0_36, la0_36]
    refine hK _ _ _ _ _ _ _ ?_
    rw [fdX10_taken_25]
    simp only [gt_nil, true_and, eq_self, gt_iret, gt_retz, bkX10_taken_25, ka0_0, ra0_0_0, ka0_1, ra0_1_14, ka0_26, ra0_26_13, ka0_36, la0_36]
    obtain rfl := gw_inj1 h
    exact ⟨hcc, hss, hq⟩
  · replace h := gw_ifn h c_5
    obtain ⟨c_6, h⟩ := gw_ife h
    refine ⟨c_6, ?_⟩
    refine hK _ _ _ _ _ _ _ ?_
    rw [fdX10_taken_25]
    simp only [gt_nil, true_and, eq_self, gt_iret, gt_retz, bkX10_taken_25, ka0_0, ra0_0_0, ka0_1, ra0_1_14, ka0_26, ra0_26_13, ka0_36, la0_36]
    obtain rfl := gw_inj1 h
    exact ⟨hcc, hss, hq⟩
def F_X10_longest (n0 : Nat) (a0 : Nat) (v1 : Int32) (μ : gw_M) : Option (Int32) := (F_X10_isGuest n0 v1 μ).bind (fun (r_1 : Int32) => (if r_1 = 0 then some (-1) else (if 0 ≤ (v1 - (1 : Int32)) ∧ (v1 - (1 : Int32)).toNatClampNeg < 2 then some (μ (a0 + 37) (v1 - (1 : Int32)).toNatClampNeg) else none)))
theorem ok_X10_longest {l : Launch} {x : gw_C} {d : Nat} {S : gw_S} {Q : Option Value → gw_S → gw_M → Prop} {v1 : Int32} {a0 : Nat} {n0 : Nat} {μ : gw_M} {r} (hS0 : gw_sh S 10 a0) (h : F_X10_longest n0 a0 v1 μ = some r) (hq : Q (some (.int r)) S μ) : gw_ok l x (d + 2) sgX10_longest 0 0 [.ref a0, .int v1] S μ Q := by
  refine gw_ok_of stX10_longest (lv0 := [.ref a0, .int v1]) (Nat.le_of_ble_eq_true rfl) rfl rfl ?_
  intro K hK
  have hcc : 0 ≤ 0 := Nat.zero_le _
  have hss : 0 ≤ 0 := Nat.zero_le _
  have ka0_0 : gw_kd S a0 = 10 := (hS0 0 _ rfl).1
  have ra0_0_0 : gw_rf S a0 0 = a0 + 1 := (hS0 0 _ rfl).2.2 (0, 1) (by decide)
  have ka0_1 : gw_kd S (a0 + 1) = 3 := (hS0 1 _ rfl).1
  have ra0_1_14 : gw_rf S (a0 + 1) 14 = a0 + 26 := (hS0 1 _ rfl).2.2 (14, 26) (by decide)
  have ka0_26 : gw_kd S (a0 + 26) = 2 := (hS0 26 _ rfl).1
  have ra0_26_14 : gw_rf S (a0 + 26) 14 = a0 + 37 := (hS0 26 _ rfl).2.2 (14, 37) (by decide)
  have ka0_37 : gw_kd S (a0 + 37) = 12 := (hS0 37 _ rfl).1
  have la0_37 : gw_ln S (a0 + 37) = 2 := (hS0 37 _ rfl).2.1
  unfold F_X10_longest at h
  refine hK _ _ _ _ _ _ _ ?_
  rw [fdX10_longest_0]
  simp only [gt_nil, true_and, eq_self, gt_iload_n, gt_ink, gw_nth, gt_s1_0, gt_s2_0, gt_s3_0, gt_s4_0, gt_s1_1, gt_s2_1, gt_s3_1, gt_s4_1, gt_acpy, gt_if, gt_aload_n, gt_rfk, gt_get_r, gt_get_i, gt_get_z, gt_iconst, gt_isub, gt_iaload, gt_goto, bkX10_longest_0, ka0_0, ra0_0_0, ka0_1, ra0_1_14, ka0_26, ra0_26_14, ka0_37, la0_37]
  obtain ⟨r_1, e_3, h⟩ := gw_bnd h
  refine ⟨rfl, 0, 0, hcc, hss, ok_X10_isGuest e_3 ?_⟩
  intro hbr_1
  simp only [gt_nil, true_and, eq_self, gt_if, gt_aload_n, gt_rfk, gw_nth, gt_get_r, gt_get_i, gt_get_z, gt_iload_n, gt_ink, gt_iconst, gt_isub, gt_iaload, gt_goto, Option.toList, List.cons_append, List.nil_append, Nat.add_zero, ka0_0, ra0_0_0, ka0_1, ra0_1_14, ka0_26, ra0_26_14, ka0_37, la0_37]
  refine ⟨fun c_5 => ?_, fun c_5 => ?_⟩
  · replace h := gw_ifp h c_5
    refine hK _ _ _ _ _ _ _ ?_
    rw [fdX10_longest_24]
    simp only [gt_nil, true_and, eq_self, gt_iconst, bkX10_longest_24, ka0_0, ra0_0_0, ka0_1, ra0_1_14, ka0_26, ra0_26_14, ka0_37, la0_37]
    refine hK _ _ _ _ _ _ _ ?_
    rw [fdX10_longest_25]
    simp only [gt_nil, true_and, eq_self, gt_iret, gt_retz, bkX10_longest_25, ka0_0, ra0_0_0, ka0_1, ra0_1_14, ka0_26, ra0_26_14, ka0_37, la0_37]
    obtain rfl := gw_inj1 h
    exact ⟨hcc, hss, hq⟩
  · replace h := gw_ifn h c_5
    obtain ⟨c_6, h⟩ := gw_ife h
    refine ⟨c_6, ?_⟩
    refine hK _ _ _ _ _ _ _ ?_
    rw [fdX10_longest_25]
    simp only [gt_nil, true_and, eq_self, gt_iret, gt_retz, bkX10_longest_25, ka0_0, ra0_0_0, ka0_1, ra0_1_14, ka0_26, ra0_26_14, ka0_37, la0_37]
    obtain rfl := gw_inj1 h
    exact ⟨hcc, hss, hq⟩
def F_X10_pendingFor (n0 : Nat) (a0 : Nat) (v1 : Int32) (v2 : Int32) (μ : gw_M) : Option (Int32) := (F_X10_isGuest n0 v1 μ).bind (fun (r_1 : Int32) => (if r_1 = 0 then some (-1) else (F_X10_isVector n0 v2 μ).bind (fun (r_6 : Int32) => (if r_6 = 0 then some (-1) else (F_X3_guest n0 (a0 + 1) v1 μ).bind (fun (r_11 : Nat) => (F_X0_awaits n0 r_11 v2 μ).bind (fun (r_15 : Int32) => (if ¬ r_15 = 0 then (F_X3_guest n0 (a0 + 1) v1 μ).bind (fun (r_20 : Nat) => (if 0 ≤ v2 ∧ v2.toNatClampNeg < 16 then some ((μ (a0 + 1) 7) - (μ (r_20 + 5) v2.toNatClampNeg)) else none)) else some (-1))))))))
theorem ok_X10_pendingFor {l : Launch} {x : gw_C} {d : Nat} {S : gw_S} {Q : Option Value → gw_S → gw_M → Prop} {v1 v2 : Int32} {a0 : Nat} {n0 : Nat} {μ : gw_M} {r} (hS0 : gw_sh S 10 a0) (h : F_X10_pendingFor n0 a0 v1 v2 μ = some r) (hq : Q (some (.int r)) S μ) : gw_ok l x (d + 3) sgX10_pendingFor 0 0 [.ref a0, .int v1, .int v2] S μ Q := by
  refine gw_ok_of stX10_pendingFor (lv0 := [.ref a0, .int v1, .int v2]) (Nat.le_of_ble_eq_true rfl) rfl rfl ?_
  intro K hK
  have hcc : 0 ≤ 0 := Nat.zero_le _
  have hss : 0 ≤ 0 := Nat.zero_le _
  have ka0_0 : gw_kd S a0 = 10 := (hS0 0 _ rfl).1
  have ra0_0_0 : gw_rf S a0 0 = a0 + 1 := (hS0 0 _ rfl).2.2 (0, 1) (by decide)
  have ka0_1 : gw_kd S (a0 + 1) = 3 := (hS0 1 _ rfl).1
  unfold F_X10_pendingFor at h
  refine hK _ _ _ _ _ _ _ ?_
  rw [fdX10_pendingFor_0]
  simp only [gt_nil, true_and, eq_self, gt_iload_n, gt_ink, gw_nth, gt_s1_0, gt_s2_0, gt_s3_0, gt_s4_0, gt_s1_1, gt_s2_1, gt_s3_1, gt_s4_1, gt_acpy, gt_if, gt_aload_n, gt_rfk, gt_get_r, gt_get_i, gt_get_z, gt_v0, gt_v1, gt_v2, gt_v3, gt_v4, gt_v5, bkX10_pendingFor_0, ka0_0, ra0_0_0, ka0_1]
  obtain ⟨r_1, e_3, h⟩ := gw_bnd h
  refine ⟨rfl, 0, 0, hcc, hss, ok_X10_isGuest e_3 ?_⟩
  intro hbr_1
  simp only [gt_nil, true_and, eq_self, gt_if, gt_iload_n, gt_ink, gw_nth, gt_s1_0, gt_s2_0, gt_s3_0, gt_s4_0, gt_s1_1, gt_s2_1, gt_s3_1, gt_s4_1, gt_acpy, gt_aload_n, gt_rfk, gt_get_r, gt_get_i, gt_get_z, gt_v0, gt_v1, gt_v2, gt_v3, gt_v4, gt_v5, Option.toList, List.cons_append, List.nil_append, Nat.add_zero, ka0_0, ra0_0_0, ka0_1]
  refine ⟨fun c_5 => ?_, fun c_5 => ?_⟩
  · replace h := gw_ifp h c_5
    refine hK _ _ _ _ _ _ _ ?_
    rw [fdX10_pendingFor_29]
    simp only [gt_nil, true_and, eq_self, gt_iconst, gt_iret, gt_retz, bkX10_pendingFor_29, ka0_0, ra0_0_0, ka0_1]
    obtain rfl := gw_inj1 h
    exact ⟨hcc, hss, hq⟩
  · replace h := gw_ifn h c_5
    obtain ⟨r_6, e_8, h⟩ := gw_bnd h
    refine ⟨rfl, 0, 0, hcc, hss, ok_X10_isVector e_8 ?_⟩
    intro hbr_6
    simp only [gt_nil, true_and, eq_self, gt_if, gt_aload_n, gt_rfk, gw_nth, gt_get_r, gt_get_i, gt_get_z, gt_iload_n, gt_ink, gt_v0, gt_v1, gt_v2, gt_v3, gt_v4, gt_v5, Option.toList, List.cons_append, List.nil_append, Nat.add_zero, ka0_0, ra0_0_0, ka0_1]
    refine ⟨fun c_10 => ?_, fun c_10 => ?_⟩
    · replace h := gw_ifp h c_10
      refine hK _ _ _ _ _ _ _ ?_
      rw [fdX10_pendingFor_29]
      simp only [gt_nil, true_and, eq_self, gt_iconst, gt_iret, gt_retz, bkX10_pendingFor_29, ka0_0, ra0_0_0, ka0_1]
      obtain rfl := gw_inj1 h
      exact ⟨hcc, hss, hq⟩
    · replace h := gw_ifn h c_10
      obtain ⟨r_11, e_13, h⟩ := gw_bnd h
      refine ⟨rfl, 0, 0, hcc, hss, ok_X3_guest (gw_sub hS0 3 1 (by decide +kernel)) e_13 ?_⟩
      intro hsr_11
      have kr_11_0 : gw_kd S r_11 = 0 := (hsr_11 0 _ rfl).1
      simp only [gt_nil, true_and, eq_self, gt_iload_n, gt_ink, gw_nth, gt_v0, gt_v1, gt_v2, gt_v3, gt_v4, gt_v5, gt_if, Option.toList, List.cons_append, List.nil_append, Nat.add_zero, ka0_0, ra0_0_0, ka0_1, kr_11_0]
      obtain ⟨r_15, e_17, h⟩ := gw_bnd h
      refine ⟨rfl, 0, 0, hcc, hss, ok_X0_awaits hsr_11 e_17 ?_⟩
      intro hbr_15
      simp only [gt_nil, true_and, eq_self, gt_if, Option.toList, List.cons_append, List.nil_append, Nat.add_zero, ka0_0, ra0_0_0, ka0_1, kr_11_0]
      refine ⟨fun c_19 => ?_, fun c_19 => ?_⟩
      · replace h := gw_ifp h c_19
        refine hK _ _ _ _ _ _ _ ?_
        rw [fdX10_pendingFor_31]
        simp only [gt_nil, true_and, eq_self, gt_aload_n, gt_rfk, gw_nth, gt_get_r, gt_get_i, gt_get_z, gt_iload_n, gt_ink, gt_v0, gt_v1, gt_v2, gt_v3, gt_v4, gt_v5, gt_iaload, gt_isub, gt_iret, gt_retz, bkX10_pendingFor_31, ka0_0, ra0_0_0, ka0_1, kr_11_0]
        obtain ⟨r_20, e_22, h⟩ := gw_bnd h
        refine ⟨rfl, 0, 0, hcc, hss, ok_X3_guest (gw_sub hS0 3 1 (by decide +kernel)) e_22 ?_⟩
        intro hsr_20
        have kr_20_0 : gw_kd S r_20 = 0 := (hsr_20 0 _ rfl).1
        have rr_20_0_1 : gw_rf S r_20 1 = r_20 + 5 := (hsr_20 0 _ rfl).2.2 (1, 5) (by decide)
        have kr_20_5 : gw_kd S (r_20 + 5) = 12 := (hsr_20 5 _ rfl).1
        have lr_20_5 : gw_ln S (r_20 + 5) = 16 := (hsr_20 5 _ rfl).2.1
        simp only [gt_nil, true_and, eq_self, gt_get_r, gt_get_i, gt_get_z, gt_iload_n, gt_ink, gw_nth, gt_iaload, gt_isub, gt_iret, gt_retz, Option.toList, List.cons_append, List.nil_append, Nat.add_zero, ka0_0, ra0_0_0, ka0_1, kr_11_0, kr_20_0, rr_20_0_1, kr_20_5, lr_20_5]
        obtain ⟨c_24, h⟩ := gw_ife h
        refine ⟨c_24, ?_⟩
        obtain rfl := gw_inj1 h
        exact ⟨hcc, hss, hq⟩
      · replace h := gw_ifn h c_19
        refine hK _ _ _ _ _ _ _ ?_
        rw [fdX10_pendingFor_29]
        simp only [gt_nil, true_and, eq_self, gt_iconst, gt_iret, gt_retz, bkX10_pendingFor_29, ka0_0, ra0_0_0, ka0_1, kr_11_0]
        obtain rfl := gw_inj1 h
        exact ⟨hcc, hss, hq⟩
def F_X10_clock (n0 : Nat) (a0 : Nat) (v1 : Int32) (μ : gw_M) : Option (Int32) := (F_X10_within n0 v1 0 2 μ).bind (fun (r_1 : Int32) => (if r_1 = 0 then some (-1000000000) else (F_X3_clockAt n0 (a0 + 1) v1 (μ (a0 + 1) 7) μ).bind (fun (r_6 : Int32) => some r_6)))
theorem ok_X10_clock {l : Launch} {x : gw_C} {d : Nat} {S : gw_S} {Q : Option Value → gw_S → gw_M → Prop} {v1 : Int32} {a0 : Nat} {n0 : Nat} {μ : gw_M} {r} (hS0 : gw_sh S 10 a0) (h : F_X10_clock n0 a0 v1 μ = some r) (hq : Q (some (.int r)) S μ) : gw_ok l x (d + 4) sgX10_clock 0 0 [.ref a0, .int v1] S μ Q := by
  refine gw_ok_of stX10_clock (lv0 := [.ref a0, .int v1]) (Nat.le_of_ble_eq_true rfl) rfl rfl ?_
  intro K hK
  have hcc : 0 ≤ 0 := Nat.zero_le _
  have hss : 0 ≤ 0 := Nat.zero_le _
  have ka0_0 : gw_kd S a0 = 10 := (hS0 0 _ rfl).1
  have ra0_0_0 : gw_rf S a0 0 = a0 + 1 := (hS0 0 _ rfl).2.2 (0, 1) (by decide)
  have ka0_1 : gw_kd S (a0 + 1) = 3 := (hS0 1 _ rfl).1
  unfold F_X10_clock at h
  refine hK _ _ _ _ _ _ _ ?_
  rw [fdX10_clock_0]
  simp only [gt_nil, true_and, eq_self, gt_iload_n, gt_ink, gw_nth, gt_iconst, gt_s1_0, gt_s2_0, gt_s3_0, gt_s4_0, gt_s1_1, gt_s2_1, gt_s3_1, gt_s4_1, gt_acpy, gt_if, gt_aload_n, gt_rfk, gt_get_r, gt_get_i, gt_get_z, gt_v0, gt_v1, gt_v2, gt_v3, gt_v4, gt_v5, gt_goto, bkX10_clock_0, ka0_0, ra0_0_0, ka0_1]
  obtain ⟨r_1, e_3, h⟩ := gw_bnd h
  refine ⟨rfl, 0, 0, hcc, hss, ok_X10_within e_3 ?_⟩
  intro hbr_1
  simp only [gt_nil, true_and, eq_self, gt_if, gt_aload_n, gt_rfk, gw_nth, gt_get_r, gt_get_i, gt_get_z, gt_iload_n, gt_ink, gt_v0, gt_v1, gt_v2, gt_v3, gt_v4, gt_v5, gt_goto, Option.toList, List.cons_append, List.nil_append, Nat.add_zero, ka0_0, ra0_0_0, ka0_1]
  refine ⟨fun c_5 => ?_, fun c_5 => ?_⟩
  · replace h := gw_ifp h c_5
    refine hK _ _ _ _ _ _ _ ?_
    rw [fdX10_clock_27]
    simp only [gt_nil, true_and, eq_self, gt_ldc_w, bkX10_clock_27, ka0_0, ra0_0_0, ka0_1]
    refine hK _ _ _ _ _ _ _ ?_
    rw [fdX10_clock_30]
    simp only [gt_nil, true_and, eq_self, gt_iret, gt_retz, bkX10_clock_30, ka0_0, ra0_0_0, ka0_1]
    obtain rfl := gw_inj1 h
    exact ⟨hcc, hss, hq⟩
  · replace h := gw_ifn h c_5
    obtain ⟨r_6, e_8, h⟩ := gw_bnd h
    refine ⟨rfl, 0, 0, hcc, hss, ok_X3_clockAt (gw_sub hS0 3 1 (by decide +kernel)) e_8 ?_⟩
    simp only [gt_nil, true_and, eq_self, gt_goto, Option.toList, List.cons_append, List.nil_append, Nat.add_zero, ka0_0, ra0_0_0, ka0_1]
    refine hK _ _ _ _ _ _ _ ?_
    rw [fdX10_clock_30]
    simp only [gt_nil, true_and, eq_self, gt_iret, gt_retz, bkX10_clock_30, ka0_0, ra0_0_0, ka0_1]
    obtain rfl := gw_inj1 h
    exact ⟨hcc, hss, hq⟩
def F_X10_timed (n0 : Nat) (a0 : Nat) (v1 : Int32) (v2 : Int32) (μ : gw_M) : Option (Int32) := (if ¬ v1 = (-1) then (F_X10_within n0 v1 0 ((μ (a0 + 22) 3) - (1 : Int32)) μ).bind (fun (r_2 : Int32) => (if ¬ r_2 = 0 then (if v2 = (0 : Int32) then (if 0 ≤ v1 ∧ v1.toNatClampNeg < 12 then some (μ (a0 + 23) v1.toNatClampNeg) else none) else (if v2 = ((0 : Int32) + 1) then (if 0 ≤ v1 ∧ v1.toNatClampNeg < 12 then some (μ (a0 + 24) v1.toNatClampNeg) else none) else (if v2 = (((0 : Int32) + 1) + 1) then (if 0 ≤ v1 ∧ v1.toNatClampNeg < 12 then some (μ (a0 + 25) v1.toNatClampNeg) else none) else (if v2 = ((((0 : Int32) + 1) + 1) + 1) then (F_X3_dueTime n0 (a0 + 1) v1 μ).bind (fun (r_14 : Int32) => some r_14) else some (-1000000000))))) else some (-1000000000))) else some (μ (a0 + 22) 3))
theorem ok_X10_timed {l : Launch} {x : gw_C} {d : Nat} {S : gw_S} {Q : Option Value → gw_S → gw_M → Prop} {v1 v2 : Int32} {a0 : Nat} {n0 : Nat} {μ : gw_M} {r} (hS0 : gw_sh S 10 a0) (h : F_X10_timed n0 a0 v1 v2 μ = some r) (hq : Q (some (.int r)) S μ) : gw_ok l x (d + 5) sgX10_timed 0 0 [.ref a0, .int v1, .int v2] S μ Q := by
  refine gw_ok_of stX10_timed (lv0 := [.ref a0, .int v1, .int v2]) (Nat.le_of_ble_eq_true rfl) rfl rfl ?_
  intro K hK
  have hcc : 0 ≤ 0 := Nat.zero_le _
  have hss : 0 ≤ 0 := Nat.zero_le _
  have ka0_0 : gw_kd S a0 = 10 := (hS0 0 _ rfl).1
  have ra0_0_0 : gw_rf S a0 0 = a0 + 1 := (hS0 0 _ rfl).2.2 (0, 1) (by decide)
  have ka0_1 : gw_kd S (a0 + 1) = 3 := (hS0 1 _ rfl).1
  have ra0_1_13 : gw_rf S (a0 + 1) 13 = a0 + 22 := (hS0 1 _ rfl).2.2 (13, 22) (by decide)
  have ka0_22 : gw_kd S (a0 + 22) = 9 := (hS0 22 _ rfl).1
  have ra0_22_0 : gw_rf S (a0 + 22) 0 = a0 + 23 := (hS0 22 _ rfl).2.2 (0, 23) (by decide)
  have ra0_22_1 : gw_rf S (a0 + 22) 1 = a0 + 24 := (hS0 22 _ rfl).2.2 (1, 24) (by decide)
  have ra0_22_2 : gw_rf S (a0 + 22) 2 = a0 + 25 := (hS0 22 _ rfl).2.2 (2, 25) (by decide)
  have ka0_23 : gw_kd S (a0 + 23) = 12 := (hS0 23 _ rfl).1
  have la0_23 : gw_ln S (a0 + 23) = 12 := (hS0 23 _ rfl).2.1
  have ka0_24 : gw_kd S (a0 + 24) = 12 := (hS0 24 _ rfl).1
  have la0_24 : gw_ln S (a0 + 24) = 12 := (hS0 24 _ rfl).2.1
  have ka0_25 : gw_kd S (a0 + 25) = 12 := (hS0 25 _ rfl).1
  have la0_25 : gw_ln S (a0 + 25) = 12 := (hS0 25 _ rfl).2.1
  unfold F_X10_timed at h
  refine hK _ _ _ _ _ _ _ ?_
  rw [fdX10_timed_0]
  simp only [gt_nil, true_and, eq_self, gt_iload_n, gt_ink, gw_nth, gt_iconst, gt_icmp, gt_aload_n, gt_rfk, gt_get_r, gt_get_i, gt_get_z, gt_iret, gt_retz, bkX10_timed_0, ka0_0, ra0_0_0, ka0_1, ra0_1_13, ka0_22, ra0_22_0, ra0_22_1, ra0_22_2, ka0_23, la0_23, ka0_24, la0_24, ka0_25, la0_25]
  refine ⟨fun c_1 => ?_, fun c_1 => ?_⟩
  · replace h := gw_ifp2 (gw_c2_ne _ _) h c_1
    refine hK _ _ _ _ _ _ _ ?_
    rw [fdX10_timed_16]
    simp only [gt_nil, true_and, eq_self, gt_iload_n, gt_ink, gw_nth, gt_iconst, gt_aload_n, gt_rfk, gt_get_r, gt_get_i, gt_get_z, gt_isub, gt_s1_0, gt_s2_0, gt_s3_0, gt_s4_0, gt_s1_1, gt_s2_1, gt_s3_1, gt_s4_1, gt_acpy, gt_if, gt_ldc_w, gt_iret, gt_retz, bkX10_timed_16, ka0_0, ra0_0_0, ka0_1, ra0_1_13, ka0_22, ra0_22_0, ra0_22_1, ra0_22_2, ka0_23, la0_23, ka0_24, la0_24, ka0_25, la0_25]
    obtain ⟨r_2, e_4, h⟩ := gw_bnd h
    refine ⟨rfl, 0, 0, hcc, hss, ok_X10_within e_4 ?_⟩
    intro hbr_2
    simp only [gt_nil, true_and, eq_self, gt_if, gt_ldc_w, gt_iret, gt_retz, Option.toList, List.cons_append, List.nil_append, Nat.add_zero, ka0_0, ra0_0_0, ka0_1, ra0_1_13, ka0_22, ra0_22_0, ra0_22_1, ra0_22_2, ka0_23, la0_23, ka0_24, la0_24, ka0_25, la0_25]
    refine ⟨fun c_6 => ?_, fun c_6 => ?_⟩
    · replace h := gw_ifp h c_6
      refine hK _ _ _ _ _ _ _ ?_
      rw [fdX10_timed_40]
      simp only [gt_nil, true_and, eq_self, gt_iload_n, gt_ink, gw_nth, gt_tsw, gw_sw, bkX10_timed_40, ka0_0, ra0_0_0, ka0_1, ra0_1_13, ka0_22, ra0_22_0, ra0_22_1, ra0_22_2, ka0_23, la0_23, ka0_24, la0_24, ka0_25, la0_25]
      refine ⟨fun c_7 => ?_, fun c_7 => ?_⟩
      · replace h := gw_ifp h c_7
        refine hK _ _ _ _ _ _ _ ?_
        rw [fdX10_timed_72]
        simp only [gt_nil, true_and, eq_self, gt_aload_n, gt_rfk, gw_nth, gt_get_r, gt_get_i, gt_get_z, gt_iload_n, gt_ink, gt_iaload, gt_iret, gt_retz, bkX10_timed_72, ka0_0, ra0_0_0, ka0_1, ra0_1_13, ka0_22, ra0_22_0, ra0_22_1, ra0_22_2, ka0_23, la0_23, ka0_24, la0_24, ka0_25, la0_25]
        obtain ⟨c_8, h⟩ := gw_ife h
        refine ⟨c_8, ?_⟩
        obtain rfl := gw_inj1 h
        exact ⟨hcc, hss, hq⟩
      replace h := gw_ifn h c_7
      refine ⟨fun c_9 => ?_, fun c_9 => ?_⟩
      · replace h := gw_ifp h c_9
        refine hK _ _ _ _ _ _ _ ?_
        rw [fdX10_timed_85]
        simp only [gt_nil, true_and, eq_self, gt_aload_n, gt_rfk, gw_nth, gt_get_r, gt_get_i, gt_get_z, gt_iload_n, gt_ink, gt_iaload, gt_iret, gt_retz, bkX10_timed_85, ka0_0, ra0_0_0, ka0_1, ra0_1_13, ka0_22, ra0_22_0, ra0_22_1, ra0_22_2, ka0_23, la0_23, ka0_24, la0_24, ka0_25, la0_25]
        obtain ⟨c_10, h⟩ := gw_ife h
        refine ⟨c_10, ?_⟩
        obtain rfl := gw_inj1 h
        exact ⟨hcc, hss, hq⟩
      replace h := gw_ifn h c_9
      refine ⟨fun c_11 => ?_, fun c_11 => ?_⟩
      · replace h := gw_ifp h c_11
        refine hK _ _ _ _ _ _ _ ?_
        rw [fdX10_timed_98]
        simp only [gt_nil, true_and, eq_self, gt_aload_n, gt_rfk, gw_nth, gt_get_r, gt_get_i, gt_get_z, gt_iload_n, gt_ink, gt_iaload, gt_iret, gt_retz, bkX10_timed_98, ka0_0, ra0_0_0, ka0_1, ra0_1_13, ka0_22, ra0_22_0, ra0_22_1, ra0_22_2, ka0_23, la0_23, ka0_24, la0_24, ka0_25, la0_25]
        obtain ⟨c_12, h⟩ := gw_ife h
        refine ⟨c_12, ?_⟩
        obtain rfl := gw_inj1 h
        exact ⟨hcc, hss, hq⟩
      replace h := gw_ifn h c_11
      refine ⟨fun c_13 => ?_, fun c_13 => ?_⟩
      · replace h := gw_ifp h c_13
        refine hK _ _ _ _ _ _ _ ?_
        rw [fdX10_timed_111]
        simp only [gt_nil, true_and, eq_self, gt_aload_n, gt_rfk, gw_nth, gt_get_r, gt_get_i, gt_get_z, gt_iload_n, gt_ink, gt_v0, gt_v1, gt_v2, gt_v3, gt_v4, gt_v5, gt_iret, gt_retz, bkX10_timed_111, ka0_0, ra0_0_0, ka0_1, ra0_1_13, ka0_22, ra0_22_0, ra0_22_1, ra0_22_2, ka0_23, la0_23, ka0_24, la0_24, ka0_25, la0_25]
        obtain ⟨r_14, e_16, h⟩ := gw_bnd h
        refine ⟨rfl, 0, 0, hcc, hss, ok_X3_dueTime (gw_sub hS0 3 1 (by decide +kernel)) e_16 ?_⟩
        simp only [gt_nil, true_and, eq_self, gt_iret, gt_retz, Option.toList, List.cons_append, List.nil_append, Nat.add_zero, ka0_0, ra0_0_0, ka0_1, ra0_1_13, ka0_22, ra0_22_0, ra0_22_1, ra0_22_2, ka0_23, la0_23, ka0_24, la0_24, ka0_25, la0_25]
        obtain rfl := gw_inj1 h
        exact ⟨hcc, hss, hq⟩
      replace h := gw_ifn h c_13
      refine hK _ _ _ _ _ _ _ ?_
      rw [fdX10_timed_120]
      simp only [gt_nil, true_and, eq_self, gt_ldc_w, gt_iret, gt_retz, bkX10_timed_120, ka0_0, ra0_0_0, ka0_1, ra0_1_13, ka0_22, ra0_22_0, ra0_22_1, ra0_22_2, ka0_23, la0_23, ka0_24, la0_24, ka0_25, la0_25]
      obtain rfl := gw_inj1 h
      exact ⟨hcc, hss, hq⟩
    · replace h := gw_ifn h c_6
      obtain rfl := gw_inj1 h
      exact ⟨hcc, hss, hq⟩
  · replace h := gw_ifn2 (gw_c2_ne _ _) h c_1
    obtain rfl := gw_inj1 h
    exact ⟨hcc, hss, hq⟩
def F_X10_first (n0 : Nat) (a0 : Nat) (μ : gw_M) : Option (Int32) := (F_X3_firstDue n0 (a0 + 1) μ).bind (fun (r_1 : Int32) => some r_1)
theorem ok_X10_first {l : Launch} {x : gw_C} {d : Nat} {S : gw_S} {Q : Option Value → gw_S → gw_M → Prop} {a0 : Nat} {n0 : Nat} {μ : gw_M} {r} (hS0 : gw_sh S 10 a0) (h : F_X10_first n0 a0 μ = some r) (hq : Q (some (.int r)) S μ) : gw_ok l x (d + 6) sgX10_first 0 0 [.ref a0] S μ Q := by
  refine gw_ok_of stX10_first (lv0 := [.ref a0]) (Nat.le_of_ble_eq_true rfl) rfl rfl ?_
  intro K hK
  have hcc : 0 ≤ 0 := Nat.zero_le _
  have hss : 0 ≤ 0 := Nat.zero_le _
  have ka0_0 : gw_kd S a0 = 10 := (hS0 0 _ rfl).1
  have ra0_0_0 : gw_rf S a0 0 = a0 + 1 := (hS0 0 _ rfl).2.2 (0, 1) (by decide)
  have ka0_1 : gw_kd S (a0 + 1) = 3 := (hS0 1 _ rfl).1
  unfold F_X10_first at h
  refine hK _ _ _ _ _ _ _ ?_
  rw [fdX10_first_0]
  simp only [gt_nil, true_and, eq_self, gt_aload_n, gt_rfk, gw_nth, gt_get_r, gt_get_i, gt_get_z, gt_v0, gt_v1, gt_v2, gt_v3, gt_v4, gt_v5, gt_iret, gt_retz, bkX10_first_0, ka0_0, ra0_0_0, ka0_1]
  obtain ⟨r_1, e_3, h⟩ := gw_bnd h
  refine ⟨rfl, 0, 0, hcc, hss, ok_X3_firstDue (gw_sub hS0 3 1 (by decide +kernel)) e_3 ?_⟩
  simp only [gt_nil, true_and, eq_self, gt_iret, gt_retz, Option.toList, List.cons_append, List.nil_append, Nat.add_zero, ka0_0, ra0_0_0, ka0_1]
  obtain rfl := gw_inj1 h
  exact ⟨hcc, hss, hq⟩
def F_X10_program (n0 : Nat) (a0 : Nat) (v1 : Int32) (v2 : Int32) (v3 : Int32) (μ : gw_M) : Option (Int32) := (F_X10_isGuest n0 v1 μ).bind (fun (r_1 : Int32) => (if ¬ r_1 = 0 then (F_X3_guest n0 (a0 + 1) v1 μ).bind (fun (r_6 : Nat) => (if ¬ v2 = (-1) then (F_X10_within n0 v2 0 ((μ (r_6 + 1) 3) - (1 : Int32)) μ).bind (fun (r_11 : Int32) => (if ¬ r_11 = 0 then (if v3 = (0 : Int32) then (if 0 ≤ v2 ∧ v2.toNatClampNeg < 24 then some (μ (r_6 + 2) v2.toNatClampNeg) else none) else (if v3 = ((0 : Int32) + 1) then (if 0 ≤ v2 ∧ v2.toNatClampNeg < 24 then some (μ (r_6 + 3) v2.toNatClampNeg) else none) else (if v3 = (((0 : Int32) + 1) + 1) then (if 0 ≤ v2 ∧ v2.toNatClampNeg < 24 then some (μ (r_6 + 4) v2.toNatClampNeg) else none) else some (-2)))) else some (-2))) else some (μ (r_6 + 1) 3))) else some (-2)))
theorem ok_X10_program {l : Launch} {x : gw_C} {d : Nat} {S : gw_S} {Q : Option Value → gw_S → gw_M → Prop} {v1 v2 v3 : Int32} {a0 : Nat} {n0 : Nat} {μ : gw_M} {r} (hS0 : gw_sh S 10 a0) (h : F_X10_program n0 a0 v1 v2 v3 μ = some r) (hq : Q (some (.int r)) S μ) : gw_ok l x (d + 2) sgX10_program 0 0 [.ref a0, .int v1, .int v2, .int v3] S μ Q := by
  refine gw_ok_of stX10_program (lv0 := [.ref a0, .int v1, .int v2, .int v3, .retAddr 0]) (Nat.le_of_ble_eq_true rfl) rfl rfl ?_
  intro K hK
  have hcc : 0 ≤ 0 := Nat.zero_le _
  have hss : 0 ≤ 0 := Nat.zero_le _
  have ka0_0 : gw_kd S a0 = 10 := (hS0 0 _ rfl).1
  have ra0_0_0 : gw_rf S a0 0 = a0 + 1 := (hS0 0 _ rfl).2.2 (0, 1) (by decide)
  have ka0_1 : gw_kd S (a0 + 1) = 3 := (hS0 1 _ rfl).1
  unfold F_X10_program at h
  refine hK _ _ _ _ _ _ _ ?_
  rw [fdX10_program_0]
  simp only [gt_nil, true_and, eq_self, gt_iload_n, gt_ink, gw_nth, gt_s1_0, gt_s2_0, gt_s3_0, gt_s4_0, gt_s1_1, gt_s2_1, gt_s3_1, gt_s4_1, gt_acpy, gt_if, gt_bipush, gt_iret, gt_retz, bkX10_program_0, ka0_0, ra0_0_0, ka0_1]
  obtain ⟨r_1, e_3, h⟩ := gw_bnd h
  refine ⟨rfl, 0, 0, hcc, hss, ok_X10_isGuest e_3 ?_⟩
  intro hbr_1
  simp only [gt_nil, true_and, eq_self, gt_if, gt_bipush, gt_iret, gt_retz, Option.toList, List.cons_append, List.nil_append, Nat.add_zero, ka0_0, ra0_0_0, ka0_1]
  refine ⟨fun c_5 => ?_, fun c_5 => ?_⟩
  · replace h := gw_ifp h c_5
    refine hK _ _ _ _ _ _ _ ?_
    rw [fdX10_program_10]
    simp only [gt_nil, true_and, eq_self, gt_aload_n, gt_rfk, gw_nth, gt_get_r, gt_get_i, gt_get_z, gt_iload_n, gt_ink, gt_v0, gt_v1, gt_v2, gt_v3, gt_v4, gt_v5, gt_astore, gw_set, gt_iconst, gt_icmp, gt_aload, gt_iret, gt_retz, bkX10_program_10, ka0_0, ra0_0_0, ka0_1]
    obtain ⟨r_6, e_8, h⟩ := gw_bnd h
    refine ⟨rfl, 0, 0, hcc, hss, ok_X3_guest (gw_sub hS0 3 1 (by decide +kernel)) e_8 ?_⟩
    intro hsr_6
    have kr_6_0 : gw_kd S r_6 = 0 := (hsr_6 0 _ rfl).1
    have rr_6_0_0 : gw_rf S r_6 0 = r_6 + 1 := (hsr_6 0 _ rfl).2.2 (0, 1) (by decide)
    have kr_6_1 : gw_kd S (r_6 + 1) = 7 := (hsr_6 1 _ rfl).1
    have rr_6_1_0 : gw_rf S (r_6 + 1) 0 = r_6 + 2 := (hsr_6 1 _ rfl).2.2 (0, 2) (by decide)
    have rr_6_1_1 : gw_rf S (r_6 + 1) 1 = r_6 + 3 := (hsr_6 1 _ rfl).2.2 (1, 3) (by decide)
    have rr_6_1_2 : gw_rf S (r_6 + 1) 2 = r_6 + 4 := (hsr_6 1 _ rfl).2.2 (2, 4) (by decide)
    have kr_6_2 : gw_kd S (r_6 + 2) = 12 := (hsr_6 2 _ rfl).1
    have lr_6_2 : gw_ln S (r_6 + 2) = 24 := (hsr_6 2 _ rfl).2.1
    have kr_6_3 : gw_kd S (r_6 + 3) = 12 := (hsr_6 3 _ rfl).1
    have lr_6_3 : gw_ln S (r_6 + 3) = 24 := (hsr_6 3 _ rfl).2.1
    have kr_6_4 : gw_kd S (r_6 + 4) = 12 := (hsr_6 4 _ rfl).1
    have lr_6_4 : gw_ln S (r_6 + 4) = 24 := (hsr_6 4 _ rfl).2.1
    simp only [gt_nil, true_and, eq_self, gt_get_r, gt_get_i, gt_get_z, gt_astore, gw_set, gt_iload_n, gt_ink, gw_nth, gt_iconst, gt_icmp, gt_aload, gt_rfk, gt_iret, gt_retz, Option.toList, List.cons_append, List.nil_append, Nat.add_zero, ka0_0, ra0_0_0, ka0_1, kr_6_0, rr_6_0_0, kr_6_1, rr_6_1_0, rr_6_1_1, rr_6_1_2, kr_6_2, lr_6_2, kr_6_3, lr_6_3, kr_6_4, lr_6_4]
    refine ⟨fun c_10 => ?_, fun c_10 => ?_⟩
    · replace h := gw_ifp2 (gw_c2_ne _ _) h c_10
      refine hK _ _ _ _ _ _ _ ?_
      rw [fdX10_program_34]
      simp only [gt_nil, true_and, eq_self, gt_iload_n, gt_ink, gw_nth, gt_iconst, gt_aload, gt_rfk, gt_get_r, gt_get_i, gt_get_z, gt_isub, gt_s1_0, gt_s2_0, gt_s3_0, gt_s4_0, gt_s1_1, gt_s2_1, gt_s3_1, gt_s4_1, gt_acpy, gt_if, gt_bipush, gt_iret, gt_retz, bkX10_program_34, ka0_0, ra0_0_0, ka0_1, kr_6_0, rr_6_0_0, kr_6_1, rr_6_1_0, rr_6_1_1, rr_6_1_2, kr_6_2, lr_6_2, kr_6_3, lr_6_3, kr_6_4, lr_6_4]
      obtain ⟨r_11, e_13, h⟩ := gw_bnd h
      refine ⟨rfl, 0, 0, hcc, hss, ok_X10_within e_13 ?_⟩
      intro hbr_11
      simp only [gt_nil, true_and, eq_self, gt_if, gt_bipush, gt_iret, gt_retz, Option.toList, List.cons_append, List.nil_append, Nat.add_zero, ka0_0, ra0_0_0, ka0_1, kr_6_0, rr_6_0_0, kr_6_1, rr_6_1_0, rr_6_1_1, rr_6_1_2, kr_6_2, lr_6_2, kr_6_3, lr_6_3, kr_6_4, lr_6_4]
      refine ⟨fun c_15 => ?_, fun c_15 => ?_⟩
      · replace h := gw_ifp h c_15
        refine hK _ _ _ _ _ _ _ ?_
        rw [fdX10_program_52]
        simp only [gt_nil, true_and, eq_self, gt_iload_n, gt_ink, gw_nth, gt_tsw, gw_sw, bkX10_program_52, ka0_0, ra0_0_0, ka0_1, kr_6_0, rr_6_0_0, kr_6_1, rr_6_1_0, rr_6_1_1, rr_6_1_2, kr_6_2, lr_6_2, kr_6_3, lr_6_3, kr_6_4, lr_6_4]
        refine ⟨fun c_16 => ?_, fun c_16 => ?_⟩
        · replace h := gw_ifp h c_16
          refine hK _ _ _ _ _ _ _ ?_
          rw [fdX10_program_80]
          simp only [gt_nil, true_and, eq_self, gt_aload, gt_rfk, gw_nth, gt_get_r, gt_get_i, gt_get_z, gt_iload_n, gt_ink, gt_iaload, gt_iret, gt_retz, bkX10_program_80, ka0_0, ra0_0_0, ka0_1, kr_6_0, rr_6_0_0, kr_6_1, rr_6_1_0, rr_6_1_1, rr_6_1_2, kr_6_2, lr_6_2, kr_6_3, lr_6_3, kr_6_4, lr_6_4]
          obtain ⟨c_17, h⟩ := gw_ife h
          refine ⟨c_17, ?_⟩
          obtain rfl := gw_inj1 h
          exact ⟨hcc, hss, hq⟩
        replace h := gw_ifn h c_16
        refine ⟨fun c_18 => ?_, fun c_18 => ?_⟩
        · replace h := gw_ifp h c_18
          refine hK _ _ _ _ _ _ _ ?_
          rw [fdX10_program_88]
          simp only [gt_nil, true_and, eq_self, gt_aload, gt_rfk, gw_nth, gt_get_r, gt_get_i, gt_get_z, gt_iload_n, gt_ink, gt_iaload, gt_iret, gt_retz, bkX10_program_88, ka0_0, ra0_0_0, ka0_1, kr_6_0, rr_6_0_0, kr_6_1, rr_6_1_0, rr_6_1_1, rr_6_1_2, kr_6_2, lr_6_2, kr_6_3, lr_6_3, kr_6_4, lr_6_4]
          obtain ⟨c_19, h⟩ := gw_ife h
          refine ⟨c_19, ?_⟩
          obtain rfl := gw_inj1 h
          exact ⟨hcc, hss, hq⟩
        replace h := gw_ifn h c_18
        refine ⟨fun c_20 => ?_, fun c_20 => ?_⟩
        · replace h := gw_ifp h c_20
          refine hK _ _ _ _ _ _ _ ?_
          rw [fdX10_program_96]
          simp only [gt_nil, true_and, eq_self, gt_aload, gt_rfk, gw_nth, gt_get_r, gt_get_i, gt_get_z, gt_iload_n, gt_ink, gt_iaload, gt_iret, gt_retz, bkX10_program_96, ka0_0, ra0_0_0, ka0_1, kr_6_0, rr_6_0_0, kr_6_1, rr_6_1_0, rr_6_1_1, rr_6_1_2, kr_6_2, lr_6_2, kr_6_3, lr_6_3, kr_6_4, lr_6_4]
          obtain ⟨c_21, h⟩ := gw_ife h
          refine ⟨c_21, ?_⟩
          obtain rfl := gw_inj1 h
          exact ⟨hcc, hss, hq⟩
        replace h := gw_ifn h c_20
        refine hK _ _ _ _ _ _ _ ?_
        rw [fdX10_program_104]
        simp only [gt_nil, true_and, eq_self, gt_bipush, gt_iret, gt_retz, bkX10_program_104, ka0_0, ra0_0_0, ka0_1, kr_6_0, rr_6_0_0, kr_6_1, rr_6_1_0, rr_6_1_1, rr_6_1_2, kr_6_2, lr_6_2, kr_6_3, lr_6_3, kr_6_4, lr_6_4]
        obtain rfl := gw_inj1 h
        exact ⟨hcc, hss, hq⟩
      · replace h := gw_ifn h c_15
        obtain rfl := gw_inj1 h
        exact ⟨hcc, hss, hq⟩
    · replace h := gw_ifn2 (gw_c2_ne _ _) h c_10
      obtain rfl := gw_inj1 h
      exact ⟨hcc, hss, hq⟩
  · replace h := gw_ifn h c_5
    obtain rfl := gw_inj1 h
    exact ⟨hcc, hss, hq⟩
def F_X10_foretold_36 (n0 : Nat) (a0 : Nat) : Nat → Int32 → Int32 → Int32 → gw_M → Option (Int32 × gw_M)
  | 0, _, _, _, _ => none
  | n + 1, v1, v2, v3, μ => (if v1 ≤ v3 then (F_X3_figure n0 (a0 + 169) v2 μ).bind (fun (r_2 : Int32) => some (r_2, μ)) else (F_X3_goOn n0 (a0 + 169) μ).bind (fun (μ_7 : gw_M) => gw_let (v3 + 1) (fun (w_10 : Int32) => F_X10_foretold_36 n0 a0 n v1 v2 w_10 μ_7)))
def F_X10_foretold (n0 : Nat) (a0 : Nat) (v1 : Int32) (v2 : Int32) (μ : gw_M) : Option (Int32 × gw_M) := (F_X10_mayGo n0 a0 v1 200 μ).bind (fun (r_1 : Int32) => (if r_1 = 0 then some ((-1), μ) else (F_X10_within n0 v2 0 17 μ).bind (fun (r_6 : Int32) => (if ¬ r_6 = 0 then (F_X3_copyFrom n0 (a0 + 169) (a0 + 1) μ).bind (fun (μ_12 : gw_M) => F_X10_foretold_36 n0 a0 n0 v1 v2 0 μ_12) else some ((-1), μ)))))
theorem B_X10_foretold_36 {l : Launch} {x : gw_C} {d : Nat} {S : gw_S} {Q : Option Value → gw_S → gw_M → Prop} {K : Nat → gw_Kt} {mc ms cc ss : Nat} (hcc : cc ≤ mc) (hss : ss ≤ ms) (hK : gw_cl l x (d + 6) mc ms bsX10_foretold Q K) {a0 : Nat} (hS0 : gw_sh S 10 a0) {n0 : Nat} : ∀ {n : Nat} {v1 v2 v3} {μ : gw_M} {r μ'}, F_X10_foretold_36 n0 a0 n v1 v2 v3 μ = some (r, μ') → Q (some (.int r)) S μ' → K 36 [.ref a0, .int v1, .int v2, .int v3] [] S μ cc ss := by
  have ka0_0 : gw_kd S a0 = 10 := (hS0 0 _ rfl).1
  have ra0_0_4 : gw_rf S a0 4 = a0 + 169 := (hS0 0 _ rfl).2.2 (4, 169) (by decide)
  have ka0_169 : gw_kd S (a0 + 169) = 3 := (hS0 169 _ rfl).1
  intro n
  induction n with
  | zero => intro v1 v2 v3 μ r μ' h hq; simp [F_X10_foretold_36] at h
  | succ n ih =>
    intro v1 v2 v3 μ r μ' h hq
    simp only [F_X10_foretold_36] at h
    refine hK _ _ _ _ _ _ _ ?_
    rw [fdX10_foretold_36]
    simp only [gt_nil, true_and, eq_self, gt_iload_n, gt_ink, gw_nth, gt_icmp, gt_aload_n, gt_rfk, gt_get_r, gt_get_i, gt_get_z, gt_v0, gt_v1, gt_v2, gt_v3, gt_v4, gt_v5, gt_iinc, gw_set, gt_goto, bkX10_foretold_36, ka0_0, ra0_0_4, ka0_169]
    refine ⟨fun c_1 => ?_, fun c_1 => ?_⟩
    · replace h := gw_ifp2 (gw_c2_ge _ _) h c_1
      refine hK _ _ _ _ _ _ _ ?_
      rw [fdX10_foretold_54]
      simp only [gt_nil, true_and, eq_self, gt_aload_n, gt_rfk, gw_nth, gt_get_r, gt_get_i, gt_get_z, gt_iload_n, gt_ink, gt_v0, gt_v1, gt_v2, gt_v3, gt_v4, gt_v5, gt_iret, gt_retz, bkX10_foretold_54, ka0_0, ra0_0_4, ka0_169]
      obtain ⟨r_2, e_4, h⟩ := gw_bnd h
      refine ⟨rfl, 0, 0, hcc, hss, ok_X3_figure (gw_sub hS0 3 169 (by decide +kernel)) e_4 ?_⟩
      simp only [gt_nil, true_and, eq_self, gt_iret, gt_retz, Option.toList, List.cons_append, List.nil_append, Nat.add_zero, ka0_0, ra0_0_4, ka0_169]
      obtain ⟨rfl, rfl⟩ := gw_inj2 h
      exact ⟨hcc, hss, hq⟩
    · replace h := gw_ifn2 (gw_c2_ge _ _) h c_1
      obtain ⟨μ_7, e_8, h⟩ := gw_bnd h
      refine ⟨rfl, 0, 0, hcc, hss, ok_X3_goOn (gw_sub hS0 3 169 (by decide +kernel)) e_8 ?_⟩
      simp only [gt_nil, true_and, eq_self, gt_iinc, gt_ink, gw_nth, gw_set, gt_goto, Option.toList, List.cons_append, List.nil_append, Nat.add_zero, ka0_0, ra0_0_4, ka0_169]
      obtain ⟨w_10, hw_10, h⟩ := gw_lt h
      try rw [← hw_10]
      exact ih h hq
theorem ok_X10_foretold {l : Launch} {x : gw_C} {d : Nat} {S : gw_S} {Q : Option Value → gw_S → gw_M → Prop} {v1 v2 : Int32} {a0 : Nat} {n0 : Nat} {μ : gw_M} {r μ'} (hS0 : gw_sh S 10 a0) (h : F_X10_foretold n0 a0 v1 v2 μ = some (r, μ')) (hq : Q (some (.int r)) S μ') : gw_ok l x (d + 7) sgX10_foretold 0 0 [.ref a0, .int v1, .int v2] S μ Q := by
  refine gw_ok_of stX10_foretold (lv0 := [.ref a0, .int v1, .int v2, .retAddr 0]) (Nat.le_of_ble_eq_true rfl) rfl rfl ?_
  intro K hK
  have hcc : 0 ≤ 0 := Nat.zero_le _
  have hss : 0 ≤ 0 := Nat.zero_le _
  have ka0_0 : gw_kd S a0 = 10 := (hS0 0 _ rfl).1
  have ra0_0_0 : gw_rf S a0 0 = a0 + 1 := (hS0 0 _ rfl).2.2 (0, 1) (by decide)
  have ra0_0_4 : gw_rf S a0 4 = a0 + 169 := (hS0 0 _ rfl).2.2 (4, 169) (by decide)
  have ka0_1 : gw_kd S (a0 + 1) = 3 := (hS0 1 _ rfl).1
  have ka0_169 : gw_kd S (a0 + 169) = 3 := (hS0 169 _ rfl).1
  unfold F_X10_foretold at h
  refine hK _ _ _ _ _ _ _ ?_
  rw [fdX10_foretold_0]
  simp only [gt_nil, true_and, eq_self, gt_aload_n, gt_rfk, gw_nth, gt_iload_n, gt_ink, gt_sipush, gt_v0, gt_v1, gt_v2, gt_v3, gt_v4, gt_v5, gt_if, gt_iconst, gt_bipush, gt_s1_0, gt_s2_0, gt_s3_0, gt_s4_0, gt_s1_1, gt_s2_1, gt_s3_1, gt_s4_1, gt_acpy, bkX10_foretold_0, ka0_0, ra0_0_0, ra0_0_4, ka0_1, ka0_169]
  obtain ⟨r_1, e_3, h⟩ := gw_bnd h
  refine ⟨rfl, 0, 0, hcc, hss, ok_X10_mayGo hS0 e_3 ?_⟩
  intro hbr_1
  simp only [gt_nil, true_and, eq_self, gt_if, gt_iload_n, gt_ink, gw_nth, gt_iconst, gt_bipush, gt_s1_0, gt_s2_0, gt_s3_0, gt_s4_0, gt_s1_1, gt_s2_1, gt_s3_1, gt_s4_1, gt_acpy, Option.toList, List.cons_append, List.nil_append, Nat.add_zero, ka0_0, ra0_0_0, ra0_0_4, ka0_1, ka0_169]
  refine ⟨fun c_5 => ?_, fun c_5 => ?_⟩
  · replace h := gw_ifp h c_5
    refine hK _ _ _ _ _ _ _ ?_
    rw [fdX10_foretold_21]
    simp only [gt_nil, true_and, eq_self, gt_iconst, gt_iret, gt_retz, bkX10_foretold_21, ka0_0, ra0_0_0, ra0_0_4, ka0_1, ka0_169]
    obtain ⟨rfl, rfl⟩ := gw_inj2 h
    exact ⟨hcc, hss, hq⟩
  · replace h := gw_ifn h c_5
    obtain ⟨r_6, e_8, h⟩ := gw_bnd h
    refine ⟨rfl, 0, 0, hcc, hss, ok_X10_within e_8 ?_⟩
    intro hbr_6
    simp only [gt_nil, true_and, eq_self, gt_if, Option.toList, List.cons_append, List.nil_append, Nat.add_zero, ka0_0, ra0_0_0, ra0_0_4, ka0_1, ka0_169]
    refine ⟨fun c_10 => ?_, fun c_10 => ?_⟩
    · replace h := gw_ifp h c_10
      refine hK _ _ _ _ _ _ _ ?_
      rw [fdX10_foretold_23]
      simp only [gt_nil, true_and, eq_self, gt_aload_n, gt_rfk, gw_nth, gt_get_r, gt_get_i, gt_get_z, gt_v0, gt_v1, gt_v2, gt_v3, gt_v4, gt_v5, gt_iconst, gt_istore_n, gw_set, bkX10_foretold_23, ka0_0, ra0_0_0, ra0_0_4, ka0_1, ka0_169]
      obtain ⟨μ_12, e_13, h⟩ := gw_bnd h
      refine ⟨rfl, 0, 0, hcc, hss, ok_X3_copyFrom (gw_sub hS0 3 169 (by decide +kernel)) (gw_sub hS0 3 1 (by decide +kernel)) e_13 ?_⟩
      simp only [gt_nil, true_and, eq_self, gt_iconst, gt_istore_n, gw_set, Option.toList, List.cons_append, List.nil_append, Nat.add_zero, ka0_0, ra0_0_0, ra0_0_4, ka0_1, ka0_169]
      exact B_X10_foretold_36 hcc hss hK hS0 h hq
    · replace h := gw_ifn h c_10
      refine hK _ _ _ _ _ _ _ ?_
      rw [fdX10_foretold_21]
      simp only [gt_nil, true_and, eq_self, gt_iconst, gt_iret, gt_retz, bkX10_foretold_21, ka0_0, ra0_0_0, ra0_0_4, ka0_1, ka0_169]
      obtain ⟨rfl, rfl⟩ := gw_inj2 h
      exact ⟨hcc, hss, hq⟩
def F_X10_till_31 (n0 : Nat) (a0 : Nat) : Nat → Int32 → Int32 → gw_M → Option (Int32 × gw_M)
  | 0, _, _, _ => none
  | n + 1, v1, v2, μ => (if v1 < v2 then some ((-1), μ) else (F_X3_goOn n0 (a0 + 169) μ).bind (fun (μ_3 : gw_M) => (if (μ_3 (a0 + 199) 1) ≤ (μ_3 (a0 + 31) 1) then gw_let (v2 + 1) (fun (w_7 : Int32) => F_X10_till_31 n0 a0 n v1 w_7 μ_3) else some (v2, μ_3))))
def F_X10_till (n0 : Nat) (a0 : Nat) (μ : gw_M) : Option (Int32 × gw_M) := (F_X3_copyFrom n0 (a0 + 169) (a0 + 1) μ).bind (fun (μ_2 : gw_M) => (F_J9_min_7cf53 n0 200 ((99999 : Int32) - (μ_2 (a0 + 1) 7)) μ_2).bind (fun (r_5 : Int32) => F_X10_till_31 n0 a0 n0 r_5 1 μ_2))
theorem B_X10_till_31 {l : Launch} {x : gw_C} {d : Nat} {S : gw_S} {Q : Option Value → gw_S → gw_M → Prop} {K : Nat → gw_Kt} {mc ms cc ss : Nat} (hcc : cc ≤ mc) (hss : ss ≤ ms) (hK : gw_cl l x (d + 6) mc ms bsX10_till Q K) {a0 : Nat} (hS0 : gw_sh S 10 a0) {n0 : Nat} : ∀ {n : Nat} {v1 v2} {μ : gw_M} {r μ'}, F_X10_till_31 n0 a0 n v1 v2 μ = some (r, μ') → Q (some (.int r)) S μ' → K 31 [.ref a0, .int v1, .int v2] [] S μ cc ss := by
  have ka0_0 : gw_kd S a0 = 10 := (hS0 0 _ rfl).1
  have ra0_0_0 : gw_rf S a0 0 = a0 + 1 := (hS0 0 _ rfl).2.2 (0, 1) (by decide)
  have ra0_0_4 : gw_rf S a0 4 = a0 + 169 := (hS0 0 _ rfl).2.2 (4, 169) (by decide)
  have ka0_1 : gw_kd S (a0 + 1) = 3 := (hS0 1 _ rfl).1
  have ra0_1_14 : gw_rf S (a0 + 1) 14 = a0 + 26 := (hS0 1 _ rfl).2.2 (14, 26) (by decide)
  have ka0_169 : gw_kd S (a0 + 169) = 3 := (hS0 169 _ rfl).1
  have ra0_169_14 : gw_rf S (a0 + 169) 14 = a0 + 194 := (hS0 169 _ rfl).2.2 (14, 194) (by decide)
  have ka0_194 : gw_kd S (a0 + 194) = 2 := (hS0 194 _ rfl).1
  have ra0_194_4 : gw_rf S (a0 + 194) 4 = a0 + 199 := (hS0 194 _ rfl).2.2 (4, 199) (by decide)
  have ka0_199 : gw_kd S (a0 + 199) = 12 := (hS0 199 _ rfl).1
  have la0_199 : gw_ln S (a0 + 199) = 2 := (hS0 199 _ rfl).2.1
  have ka0_26 : gw_kd S (a0 + 26) = 2 := (hS0 26 _ rfl).1
  have ra0_26_4 : gw_rf S (a0 + 26) 4 = a0 + 31 := (hS0 26 _ rfl).2.2 (4, 31) (by decide)
  have ka0_31 : gw_kd S (a0 + 31) = 12 := (hS0 31 _ rfl).1
  have la0_31 : gw_ln S (a0 + 31) = 2 := (hS0 31 _ rfl).2.1
  intro n
  induction n with
  | zero => intro v1 v2 μ r μ' h hq; simp [F_X10_till_31] at h
  | succ n ih =>
    intro v1 v2 μ r μ' h hq
    simp only [F_X10_till_31] at h
    refine hK _ _ _ _ _ _ _ ?_
    rw [fdX10_till_31]
    simp only [gt_nil, true_and, eq_self, gt_iload_n, gt_ink, gw_nth, gt_icmp, gt_aload_n, gt_rfk, gt_get_r, gt_get_i, gt_get_z, gt_v0, gt_v1, gt_v2, gt_v3, gt_v4, gt_v5, gt_iconst, gt_iaload, gt_iret, gt_retz, bkX10_till_31, ka0_0, ra0_0_0, ra0_0_4, ka0_1, ra0_1_14, ka0_169, ra0_169_14, ka0_194, ra0_194_4, ka0_199, la0_199, ka0_26, ra0_26_4, ka0_31, la0_31, (show Int32.toNatClampNeg 1 = 1 from rfl)]
    refine ⟨fun c_1 => ?_, fun c_1 => ?_⟩
    · replace h := gw_ifp2 (gw_c2_gt _ _) h c_1
      refine hK _ _ _ _ _ _ _ ?_
      rw [fdX10_till_78]
      simp only [gt_nil, true_and, eq_self, gt_iconst, gt_iret, gt_retz, bkX10_till_78, ka0_0, ra0_0_0, ra0_0_4, ka0_1, ra0_1_14, ka0_169, ra0_169_14, ka0_194, ra0_194_4, ka0_199, la0_199, ka0_26, ra0_26_4, ka0_31, la0_31, (show Int32.toNatClampNeg 1 = 1 from rfl)]
      obtain ⟨rfl, rfl⟩ := gw_inj2 h
      exact ⟨hcc, hss, hq⟩
    · replace h := gw_ifn2 (gw_c2_gt _ _) h c_1
      obtain ⟨μ_3, e_4, h⟩ := gw_bnd h
      refine ⟨rfl, 0, 0, hcc, hss, ok_X3_goOn (gw_sub hS0 3 169 (by decide +kernel)) e_4 ?_⟩
      simp only [gt_nil, true_and, eq_self, gt_aload_n, gt_rfk, gw_nth, gt_get_r, gt_get_i, gt_get_z, gt_iconst, gt_iaload, gt_icmp, gt_iload_n, gt_ink, gt_iret, gt_retz, Option.toList, List.cons_append, List.nil_append, Nat.add_zero, ka0_0, ra0_0_0, ra0_0_4, ka0_1, ra0_1_14, ka0_169, ra0_169_14, ka0_194, ra0_194_4, ka0_199, la0_199, ka0_26, ra0_26_4, ka0_31, la0_31, (show Int32.toNatClampNeg 1 = 1 from rfl)]
      refine ⟨(⟨by decide, by decide⟩ : gw_in 1 2), ?_⟩
      refine ⟨(⟨by decide, by decide⟩ : gw_in 1 2), ?_⟩
      refine ⟨fun c_6 => ?_, fun c_6 => ?_⟩
      · replace h := gw_ifp2 (gw_c2_le _ _) h c_6
        refine hK _ _ _ _ _ _ _ ?_
        rw [fdX10_till_72]
        simp only [gt_nil, true_and, eq_self, gt_iinc, gt_ink, gw_nth, gw_set, gt_goto, bkX10_till_72, ka0_0, ra0_0_0, ra0_0_4, ka0_1, ra0_1_14, ka0_169, ra0_169_14, ka0_194, ra0_194_4, ka0_199, la0_199, ka0_26, ra0_26_4, ka0_31, la0_31, (show Int32.toNatClampNeg 1 = 1 from rfl)]
        obtain ⟨w_7, hw_7, h⟩ := gw_lt h
        try rw [← hw_7]
        exact ih h hq
      · replace h := gw_ifn2 (gw_c2_le _ _) h c_6
        obtain ⟨rfl, rfl⟩ := gw_inj2 h
        exact ⟨hcc, hss, hq⟩
theorem ok_X10_till {l : Launch} {x : gw_C} {d : Nat} {S : gw_S} {Q : Option Value → gw_S → gw_M → Prop} {a0 : Nat} {n0 : Nat} {μ : gw_M} {r μ'} (hS0 : gw_sh S 10 a0) (h : F_X10_till n0 a0 μ = some (r, μ')) (hq : Q (some (.int r)) S μ') : gw_ok l x (d + 7) sgX10_till 0 0 [.ref a0] S μ Q := by
  refine gw_ok_of stX10_till (lv0 := [.ref a0, .retAddr 0, .retAddr 0]) (Nat.le_of_ble_eq_true rfl) rfl rfl ?_
  intro K hK
  have hcc : 0 ≤ 0 := Nat.zero_le _
  have hss : 0 ≤ 0 := Nat.zero_le _
  have ka0_0 : gw_kd S a0 = 10 := (hS0 0 _ rfl).1
  have ra0_0_0 : gw_rf S a0 0 = a0 + 1 := (hS0 0 _ rfl).2.2 (0, 1) (by decide)
  have ra0_0_4 : gw_rf S a0 4 = a0 + 169 := (hS0 0 _ rfl).2.2 (4, 169) (by decide)
  have ka0_1 : gw_kd S (a0 + 1) = 3 := (hS0 1 _ rfl).1
  have ka0_169 : gw_kd S (a0 + 169) = 3 := (hS0 169 _ rfl).1
  unfold F_X10_till at h
  refine hK _ _ _ _ _ _ _ ?_
  rw [fdX10_till_0]
  simp only [gt_nil, true_and, eq_self, gt_aload_n, gt_rfk, gw_nth, gt_get_r, gt_get_i, gt_get_z, gt_v0, gt_v1, gt_v2, gt_v3, gt_v4, gt_v5, gt_sipush, gt_ldc_w, gt_isub, gt_s1_0, gt_s2_0, gt_s3_0, gt_s4_0, gt_s1_1, gt_s2_1, gt_s3_1, gt_s4_1, gt_acpy, gt_istore_n, gw_set, gt_iconst, bkX10_till_0, ka0_0, ra0_0_0, ra0_0_4, ka0_1, ka0_169]
  obtain ⟨μ_2, e_3, h⟩ := gw_bnd h
  refine ⟨rfl, 0, 0, hcc, hss, ok_X3_copyFrom (gw_sub hS0 3 169 (by decide +kernel)) (gw_sub hS0 3 1 (by decide +kernel)) e_3 ?_⟩
  simp only [gt_nil, true_and, eq_self, gt_sipush, gt_ldc_w, gt_aload_n, gt_rfk, gw_nth, gt_get_r, gt_get_i, gt_get_z, gt_isub, gt_s1_0, gt_s2_0, gt_s3_0, gt_s4_0, gt_s1_1, gt_s2_1, gt_s3_1, gt_s4_1, gt_acpy, gt_istore_n, gw_set, gt_iconst, Option.toList, List.cons_append, List.nil_append, Nat.add_zero, ka0_0, ra0_0_0, ra0_0_4, ka0_1, ka0_169]
  obtain ⟨r_5, e_7, h⟩ := gw_bnd h
  refine ⟨rfl, 0, 0, hcc, hss, ok_J9_min_7cf53 e_7 ?_⟩
  simp only [gt_nil, true_and, eq_self, gt_istore_n, gw_set, gt_iconst, Option.toList, List.cons_append, List.nil_append, Nat.add_zero, ka0_0, ra0_0_0, ra0_0_4, ka0_1, ka0_169]
  exact B_X10_till_31 hcc hss hK hS0 h hq
def F_X10_waits_40 (n0 : Nat) (a0 : Nat) : Nat → Int32 → Int32 → Int32 → gw_M → Option (Int32 × gw_M)
  | 0, _, _, _, _ => none
  | n + 1, v1, v2, v3, μ => (if v2 < v3 then some ((-1), μ) else (F_X3_goOn n0 (a0 + 169) μ).bind (fun (μ_3 : gw_M) => (if 0 ≤ (v1 - (1 : Int32)) ∧ (v1 - (1 : Int32)).toNatClampNeg < 2 then (if 0 ≤ (v1 - (1 : Int32)) ∧ (v1 - (1 : Int32)).toNatClampNeg < 2 then (if (μ_3 (a0 + 203) (v1 - (1 : Int32)).toNatClampNeg) ≤ (μ_3 (a0 + 35) (v1 - (1 : Int32)).toNatClampNeg) then gw_let (v3 + 1) (fun (w_9 : Int32) => F_X10_waits_40 n0 a0 n v1 v2 w_9 μ_3) else some (v3, μ_3)) else none) else none)))
def F_X10_waits (n0 : Nat) (a0 : Nat) (v1 : Int32) (μ : gw_M) : Option (Int32 × gw_M) := (F_X10_isGuest n0 v1 μ).bind (fun (r_1 : Int32) => (if ¬ r_1 = 0 then (F_X3_copyFrom n0 (a0 + 169) (a0 + 1) μ).bind (fun (μ_7 : gw_M) => (F_J9_min_7cf53 n0 200 ((99999 : Int32) - (μ_7 (a0 + 1) 7)) μ_7).bind (fun (r_10 : Int32) => F_X10_waits_40 n0 a0 n0 v1 r_10 1 μ_7)) else some ((-1), μ)))
theorem B_X10_waits_40 {l : Launch} {x : gw_C} {d : Nat} {S : gw_S} {Q : Option Value → gw_S → gw_M → Prop} {K : Nat → gw_Kt} {mc ms cc ss : Nat} (hcc : cc ≤ mc) (hss : ss ≤ ms) (hK : gw_cl l x (d + 6) mc ms bsX10_waits Q K) {a0 : Nat} (hS0 : gw_sh S 10 a0) {n0 : Nat} : ∀ {n : Nat} {v1 v2 v3} {μ : gw_M} {r μ'}, F_X10_waits_40 n0 a0 n v1 v2 v3 μ = some (r, μ') → Q (some (.int r)) S μ' → K 40 [.ref a0, .int v1, .int v2, .int v3] [] S μ cc ss := by
  have ka0_0 : gw_kd S a0 = 10 := (hS0 0 _ rfl).1
  have ra0_0_0 : gw_rf S a0 0 = a0 + 1 := (hS0 0 _ rfl).2.2 (0, 1) (by decide)
  have ra0_0_4 : gw_rf S a0 4 = a0 + 169 := (hS0 0 _ rfl).2.2 (4, 169) (by decide)
  have ka0_1 : gw_kd S (a0 + 1) = 3 := (hS0 1 _ rfl).1
  have ra0_1_14 : gw_rf S (a0 + 1) 14 = a0 + 26 := (hS0 1 _ rfl).2.2 (14, 26) (by decide)
  have ka0_169 : gw_kd S (a0 + 169) = 3 := (hS0 169 _ rfl).1
  have ra0_169_14 : gw_rf S (a0 + 169) 14 = a0 + 194 := (hS0 169 _ rfl).2.2 (14, 194) (by decide)
  have ka0_194 : gw_kd S (a0 + 194) = 2 := (hS0 194 _ rfl).1
  have ra0_194_12 : gw_rf S (a0 + 194) 12 = a0 + 203 := (hS0 194 _ rfl).2.2 (12, 203) (by decide)
  have ka0_203 : gw_kd S (a0 + 203) = 12 := (hS0 203 _ rfl).1
  have la0_203 : gw_ln S (a0 + 203) = 2 := (hS0 203 _ rfl).2.1
  have ka0_26 : gw_kd S (a0 + 26) = 2 := (hS0 26 _ rfl).1
  have ra0_26_12 : gw_rf S (a0 + 26) 12 = a0 + 35 := (hS0 26 _ rfl).2.2 (12, 35) (by decide)
  have ka0_35 : gw_kd S (a0 + 35) = 12 := (hS0 35 _ rfl).1
  have la0_35 : gw_ln S (a0 + 35) = 2 := (hS0 35 _ rfl).2.1
  intro n
  induction n with
  | zero => intro v1 v2 v3 μ r μ' h hq; simp [F_X10_waits_40] at h
  | succ n ih =>
    intro v1 v2 v3 μ r μ' h hq
    simp only [F_X10_waits_40] at h
    refine hK _ _ _ _ _ _ _ ?_
    rw [fdX10_waits_40]
    simp only [gt_nil, true_and, eq_self, gt_iload_n, gt_ink, gw_nth, gt_icmp, gt_aload_n, gt_rfk, gt_get_r, gt_get_i, gt_get_z, gt_v0, gt_v1, gt_v2, gt_v3, gt_v4, gt_v5, gt_iconst, gt_isub, gt_iaload, gt_iret, gt_retz, bkX10_waits_40, ka0_0, ra0_0_0, ra0_0_4, ka0_1, ra0_1_14, ka0_169, ra0_169_14, ka0_194, ra0_194_12, ka0_203, la0_203, ka0_26, ra0_26_12, ka0_35, la0_35]
    refine ⟨fun c_1 => ?_, fun c_1 => ?_⟩
    · replace h := gw_ifp2 (gw_c2_gt _ _) h c_1
      refine hK _ _ _ _ _ _ _ ?_
      rw [fdX10_waits_91]
      simp only [gt_nil, true_and, eq_self, gt_iconst, gt_iret, gt_retz, bkX10_waits_91, ka0_0, ra0_0_0, ra0_0_4, ka0_1, ra0_1_14, ka0_169, ra0_169_14, ka0_194, ra0_194_12, ka0_203, la0_203, ka0_26, ra0_26_12, ka0_35, la0_35]
      obtain ⟨rfl, rfl⟩ := gw_inj2 h
      exact ⟨hcc, hss, hq⟩
    · replace h := gw_ifn2 (gw_c2_gt _ _) h c_1
      obtain ⟨μ_3, e_4, h⟩ := gw_bnd h
      refine ⟨rfl, 0, 0, hcc, hss, ok_X3_goOn (gw_sub hS0 3 169 (by decide +kernel)) e_4 ?_⟩
      simp only [gt_nil, true_and, eq_self, gt_aload_n, gt_rfk, gw_nth, gt_get_r, gt_get_i, gt_get_z, gt_iload_n, gt_ink, gt_iconst, gt_isub, gt_iaload, gt_icmp, gt_iret, gt_retz, Option.toList, List.cons_append, List.nil_append, Nat.add_zero, ka0_0, ra0_0_0, ra0_0_4, ka0_1, ra0_1_14, ka0_169, ra0_169_14, ka0_194, ra0_194_12, ka0_203, la0_203, ka0_26, ra0_26_12, ka0_35, la0_35]
      obtain ⟨c_6, h⟩ := gw_ife h
      refine ⟨c_6, ?_⟩
      obtain ⟨c_7, h⟩ := gw_ife h
      refine ⟨c_7, ?_⟩
      refine ⟨fun c_8 => ?_, fun c_8 => ?_⟩
      · replace h := gw_ifp2 (gw_c2_le _ _) h c_8
        refine hK _ _ _ _ _ _ _ ?_
        rw [fdX10_waits_85]
        simp only [gt_nil, true_and, eq_self, gt_iinc, gt_ink, gw_nth, gw_set, gt_goto, bkX10_waits_85, ka0_0, ra0_0_0, ra0_0_4, ka0_1, ra0_1_14, ka0_169, ra0_169_14, ka0_194, ra0_194_12, ka0_203, la0_203, ka0_26, ra0_26_12, ka0_35, la0_35]
        obtain ⟨w_9, hw_9, h⟩ := gw_lt h
        try rw [← hw_9]
        exact ih h hq
      · replace h := gw_ifn2 (gw_c2_le _ _) h c_8
        obtain ⟨rfl, rfl⟩ := gw_inj2 h
        exact ⟨hcc, hss, hq⟩
theorem ok_X10_waits {l : Launch} {x : gw_C} {d : Nat} {S : gw_S} {Q : Option Value → gw_S → gw_M → Prop} {v1 : Int32} {a0 : Nat} {n0 : Nat} {μ : gw_M} {r μ'} (hS0 : gw_sh S 10 a0) (h : F_X10_waits n0 a0 v1 μ = some (r, μ')) (hq : Q (some (.int r)) S μ') : gw_ok l x (d + 7) sgX10_waits 0 0 [.ref a0, .int v1] S μ Q := by
  refine gw_ok_of stX10_waits (lv0 := [.ref a0, .int v1, .retAddr 0, .retAddr 0]) (Nat.le_of_ble_eq_true rfl) rfl rfl ?_
  intro K hK
  have hcc : 0 ≤ 0 := Nat.zero_le _
  have hss : 0 ≤ 0 := Nat.zero_le _
  have ka0_0 : gw_kd S a0 = 10 := (hS0 0 _ rfl).1
  have ra0_0_0 : gw_rf S a0 0 = a0 + 1 := (hS0 0 _ rfl).2.2 (0, 1) (by decide)
  have ra0_0_4 : gw_rf S a0 4 = a0 + 169 := (hS0 0 _ rfl).2.2 (4, 169) (by decide)
  have ka0_1 : gw_kd S (a0 + 1) = 3 := (hS0 1 _ rfl).1
  have ka0_169 : gw_kd S (a0 + 169) = 3 := (hS0 169 _ rfl).1
  unfold F_X10_waits at h
  refine hK _ _ _ _ _ _ _ ?_
  rw [fdX10_waits_0]
  simp only [gt_nil, true_and, eq_self, gt_iload_n, gt_ink, gw_nth, gt_s1_0, gt_s2_0, gt_s3_0, gt_s4_0, gt_s1_1, gt_s2_1, gt_s3_1, gt_s4_1, gt_acpy, gt_if, gt_iconst, gt_iret, gt_retz, bkX10_waits_0, ka0_0, ra0_0_0, ra0_0_4, ka0_1, ka0_169]
  obtain ⟨r_1, e_3, h⟩ := gw_bnd h
  refine ⟨rfl, 0, 0, hcc, hss, ok_X10_isGuest e_3 ?_⟩
  intro hbr_1
  simp only [gt_nil, true_and, eq_self, gt_if, gt_iconst, gt_iret, gt_retz, Option.toList, List.cons_append, List.nil_append, Nat.add_zero, ka0_0, ra0_0_0, ra0_0_4, ka0_1, ka0_169]
  refine ⟨fun c_5 => ?_, fun c_5 => ?_⟩
  · replace h := gw_ifp h c_5
    refine hK _ _ _ _ _ _ _ ?_
    rw [fdX10_waits_9]
    simp only [gt_nil, true_and, eq_self, gt_aload_n, gt_rfk, gw_nth, gt_get_r, gt_get_i, gt_get_z, gt_v0, gt_v1, gt_v2, gt_v3, gt_v4, gt_v5, gt_sipush, gt_ldc_w, gt_isub, gt_s1_0, gt_s2_0, gt_s3_0, gt_s4_0, gt_s1_1, gt_s2_1, gt_s3_1, gt_s4_1, gt_acpy, gt_istore_n, gw_set, gt_iconst, bkX10_waits_9, ka0_0, ra0_0_0, ra0_0_4, ka0_1, ka0_169]
    obtain ⟨μ_7, e_8, h⟩ := gw_bnd h
    refine ⟨rfl, 0, 0, hcc, hss, ok_X3_copyFrom (gw_sub hS0 3 169 (by decide +kernel)) (gw_sub hS0 3 1 (by decide +kernel)) e_8 ?_⟩
    simp only [gt_nil, true_and, eq_self, gt_sipush, gt_ldc_w, gt_aload_n, gt_rfk, gw_nth, gt_get_r, gt_get_i, gt_get_z, gt_isub, gt_s1_0, gt_s2_0, gt_s3_0, gt_s4_0, gt_s1_1, gt_s2_1, gt_s3_1, gt_s4_1, gt_acpy, gt_istore_n, gw_set, gt_iconst, Option.toList, List.cons_append, List.nil_append, Nat.add_zero, ka0_0, ra0_0_0, ra0_0_4, ka0_1, ka0_169]
    obtain ⟨r_10, e_12, h⟩ := gw_bnd h
    refine ⟨rfl, 0, 0, hcc, hss, ok_J9_min_7cf53 e_12 ?_⟩
    simp only [gt_nil, true_and, eq_self, gt_istore_n, gw_set, gt_iconst, Option.toList, List.cons_append, List.nil_append, Nat.add_zero, ka0_0, ra0_0_0, ra0_0_4, ka0_1, ka0_169]
    exact B_X10_waits_40 hcc hss hK hS0 h hq
  · replace h := gw_ifn h c_5
    obtain ⟨rfl, rfl⟩ := gw_inj2 h
    exact ⟨hcc, hss, hq⟩
def F_X10_roomiest_115 (rec19 : Int32 → Int32 → Int32 → Int32 → gw_M → Option (Int32 × gw_M)) (n0 : Nat) (a0 : Nat) (v1 : Int32) (v2 : Int32) (v3 : Int32) (v4 : Int32) (μ : gw_M) : Option (Int32 × gw_M) := gw_let (v4 + 1) (fun (w_1 : Int32) => rec19 v1 v2 v3 w_1 μ)
def F_X10_roomiest_99 (rec19 : Int32 → Int32 → Int32 → Int32 → gw_M → Option (Int32 × gw_M)) (n0 : Nat) (a0 : Nat) (v1 : Int32) (v4 : Int32) (μ : gw_M) : Option (Int32 × gw_M) := gw_let ((μ (a0 + 199) 0)) (fun (w_1 : Int32) => F_X10_roomiest_115 rec19 n0 a0 v1 v4 w_1 v4 μ)
def F_X10_roomiest_59 (rec19 : Int32 → Int32 → Int32 → Int32 → gw_M → Option (Int32 × gw_M)) (n0 : Nat) (a0 : Nat) : Nat → Int32 → Int32 → Int32 → Int32 → Int32 → gw_M → Option (Int32 × gw_M)
  | 0, _, _, _, _, _, _ => none
  | n + 1, v1, v2, v3, v4, v5, μ => (if v1 ≤ v5 then (if v2 = (-1) then F_X10_roomiest_99 rec19 n0 a0 v1 v4 μ else (if v3 ≤ (μ (a0 + 199) 0) then F_X10_roomiest_115 rec19 n0 a0 v1 v2 v3 v4 μ else F_X10_roomiest_99 rec19 n0 a0 v1 v4 μ)) else (F_X3_goOn n0 (a0 + 169) μ).bind (fun (μ_5 : gw_M) => gw_let (v5 + 1) (fun (w_8 : Int32) => F_X10_roomiest_59 rec19 n0 a0 n v1 v2 v3 v4 w_8 μ_5)))
def F_X10_roomiest_19 (n0 : Nat) (a0 : Nat) : Nat → Int32 → Int32 → Int32 → Int32 → gw_M → Option (Int32 × gw_M)
  | 0, _, _, _, _, _ => none
  | n + 1, v1, v2, v3, v4, μ => (if 16 < v4 then some (v2, μ) else (F_X3_copyFrom n0 (a0 + 169) (a0 + 1) μ).bind (fun (μ_3 : gw_M) => (F_X8_dropAll n0 (a0 + 177) μ_3).bind (fun (μ_7 : gw_M) => gw_let (gw_up μ_7 (a0 + 169) 2 v4) (fun (μ_10 : gw_M) => F_X10_roomiest_59 (F_X10_roomiest_19 n0 a0 n) n0 a0 n0 v1 v2 v3 v4 0 μ_10))))
def F_X10_roomiest (n0 : Nat) (a0 : Nat) (v1 : Int32) (μ : gw_M) : Option (Int32 × gw_M) := (F_X10_mayGo n0 a0 v1 100 μ).bind (fun (r_1 : Int32) => (if ¬ r_1 = 0 then F_X10_roomiest_19 n0 a0 n0 v1 (-1) 0 1 μ else some ((-1), μ)))
theorem B_X10_roomiest_115 {l : Launch} {x : gw_C} {d : Nat} {S : gw_S} {Q : Option Value → gw_S → gw_M → Prop} {K : Nat → gw_Kt} {mc ms cc ss : Nat} (hcc : cc ≤ mc) (hss : ss ≤ ms) (hK : gw_cl l x (d + 6) mc ms bsX10_roomiest Q K) {a0 : Nat} (hS0 : gw_sh S 10 a0) {rec19 : Int32 → Int32 → Int32 → Int32 → gw_M → Option (Int32 × gw_M)} (hrec19 : ∀ {v1 v2 v3 v4} {u5 : Value} {μ : gw_M} {r μ'}, rec19 v1 v2 v3 v4 μ = some (r, μ') → Q (some (.int r)) S μ' → K 19 [.ref a0, .int v1, .int v2, .int v3, .int v4, u5] [] S μ cc ss) {n0 : Nat} {v1 v2 v3 v4} {u5 : Value} {μ : gw_M} {r μ'} (h : F_X10_roomiest_115 rec19 n0 a0 v1 v2 v3 v4 μ = some (r, μ')) (hq : Q (some (.int r)) S μ') : K 115 [.ref a0, .int v1, .int v2, .int v3, .int v4, u5] [] S μ cc ss := by
  unfold F_X10_roomiest_115 at h
  refine hK _ _ _ _ _ _ _ ?_
  rw [fdX10_roomiest_115]
  simp only [gt_nil, true_and, eq_self, gt_iinc, gt_ink, gw_nth, gw_set, gt_goto, bkX10_roomiest_115]
  obtain ⟨w_1, hw_1, h⟩ := gw_lt h
  try rw [← hw_1]
  exact hrec19 h hq
theorem B_X10_roomiest_99 {l : Launch} {x : gw_C} {d : Nat} {S : gw_S} {Q : Option Value → gw_S → gw_M → Prop} {K : Nat → gw_Kt} {mc ms cc ss : Nat} (hcc : cc ≤ mc) (hss : ss ≤ ms) (hK : gw_cl l x (d + 6) mc ms bsX10_roomiest Q K) {a0 : Nat} (hS0 : gw_sh S 10 a0) {rec19 : Int32 → Int32 → Int32 → Int32 → gw_M → Option (Int32 × gw_M)} (hrec19 : ∀ {v1 v2 v3 v4} {u5 : Value} {μ : gw_M} {r μ'}, rec19 v1 v2 v3 v4 μ = some (r, μ') → Q (some (.int r)) S μ' → K 19 [.ref a0, .int v1, .int v2, .int v3, .int v4, u5] [] S μ cc ss) {n0 : Nat} {v1 v4} {u2 u3 u5 : Value} {μ : gw_M} {r μ'} (h : F_X10_roomiest_99 rec19 n0 a0 v1 v4 μ = some (r, μ')) (hq : Q (some (.int r)) S μ') : K 99 [.ref a0, .int v1, u2, u3, .int v4, u5] [] S μ cc ss := by
  have ka0_0 : gw_kd S a0 = 10 := (hS0 0 _ rfl).1
  have ra0_0_4 : gw_rf S a0 4 = a0 + 169 := (hS0 0 _ rfl).2.2 (4, 169) (by decide)
  have ka0_169 : gw_kd S (a0 + 169) = 3 := (hS0 169 _ rfl).1
  have ra0_169_14 : gw_rf S (a0 + 169) 14 = a0 + 194 := (hS0 169 _ rfl).2.2 (14, 194) (by decide)
  have ka0_194 : gw_kd S (a0 + 194) = 2 := (hS0 194 _ rfl).1
  have ra0_194_4 : gw_rf S (a0 + 194) 4 = a0 + 199 := (hS0 194 _ rfl).2.2 (4, 199) (by decide)
  have ka0_199 : gw_kd S (a0 + 199) = 12 := (hS0 199 _ rfl).1
  have la0_199 : gw_ln S (a0 + 199) = 2 := (hS0 199 _ rfl).2.1
  unfold F_X10_roomiest_99 at h
  refine hK _ _ _ _ _ _ _ ?_
  rw [fdX10_roomiest_99]
  simp only [gt_nil, true_and, eq_self, gt_iload, gt_ink, gw_nth, gt_istore_n, gw_set, gt_aload_n, gt_rfk, gt_get_r, gt_get_i, gt_get_z, gt_iconst, gt_iaload, bkX10_roomiest_99, ka0_0, ra0_0_4, ka0_169, ra0_169_14, ka0_194, ra0_194_4, ka0_199, la0_199, (show Int32.toNatClampNeg 0 = 0 from rfl)]
  refine ⟨(⟨by decide, by decide⟩ : gw_in 0 2), ?_⟩
  obtain ⟨w_1, hw_1, h⟩ := gw_lt h
  try rw [← hw_1]
  exact B_X10_roomiest_115 hcc hss hK hS0 hrec19 h hq
theorem B_X10_roomiest_59 {l : Launch} {x : gw_C} {d : Nat} {S : gw_S} {Q : Option Value → gw_S → gw_M → Prop} {K : Nat → gw_Kt} {mc ms cc ss : Nat} (hcc : cc ≤ mc) (hss : ss ≤ ms) (hK : gw_cl l x (d + 6) mc ms bsX10_roomiest Q K) {a0 : Nat} (hS0 : gw_sh S 10 a0) {rec19 : Int32 → Int32 → Int32 → Int32 → gw_M → Option (Int32 × gw_M)} (hrec19 : ∀ {v1 v2 v3 v4} {u5 : Value} {μ : gw_M} {r μ'}, rec19 v1 v2 v3 v4 μ = some (r, μ') → Q (some (.int r)) S μ' → K 19 [.ref a0, .int v1, .int v2, .int v3, .int v4, u5] [] S μ cc ss) {n0 : Nat} : ∀ {n : Nat} {v1 v2 v3 v4 v5} {μ : gw_M} {r μ'}, F_X10_roomiest_59 rec19 n0 a0 n v1 v2 v3 v4 v5 μ = some (r, μ') → Q (some (.int r)) S μ' → K 59 [.ref a0, .int v1, .int v2, .int v3, .int v4, .int v5] [] S μ cc ss := by
  have ka0_0 : gw_kd S a0 = 10 := (hS0 0 _ rfl).1
  have ra0_0_4 : gw_rf S a0 4 = a0 + 169 := (hS0 0 _ rfl).2.2 (4, 169) (by decide)
  have ka0_169 : gw_kd S (a0 + 169) = 3 := (hS0 169 _ rfl).1
  have ra0_169_14 : gw_rf S (a0 + 169) 14 = a0 + 194 := (hS0 169 _ rfl).2.2 (14, 194) (by decide)
  have ka0_194 : gw_kd S (a0 + 194) = 2 := (hS0 194 _ rfl).1
  have ra0_194_4 : gw_rf S (a0 + 194) 4 = a0 + 199 := (hS0 194 _ rfl).2.2 (4, 199) (by decide)
  have ka0_199 : gw_kd S (a0 + 199) = 12 := (hS0 199 _ rfl).1
  have la0_199 : gw_ln S (a0 + 199) = 2 := (hS0 199 _ rfl).2.1
  intro n
  induction n with
  | zero => intro v1 v2 v3 v4 v5 μ r μ' h hq; simp [F_X10_roomiest_59] at h
  | succ n ih =>
    intro v1 v2 v3 v4 v5 μ r μ' h hq
    simp only [F_X10_roomiest_59] at h
    refine hK _ _ _ _ _ _ _ ?_
    rw [fdX10_roomiest_59]
    simp only [gt_nil, true_and, eq_self, gt_iload, gt_ink, gw_nth, gt_iload_n, gt_icmp, gt_aload_n, gt_rfk, gt_get_r, gt_get_i, gt_get_z, gt_v0, gt_v1, gt_v2, gt_v3, gt_v4, gt_v5, gt_iinc, gw_set, gt_goto, bkX10_roomiest_59, ka0_0, ra0_0_4, ka0_169, ra0_169_14, ka0_194, ra0_194_4, ka0_199, la0_199, (show Int32.toNatClampNeg 0 = 0 from rfl)]
    refine ⟨fun c_1 => ?_, fun c_1 => ?_⟩
    · replace h := gw_ifp2 (gw_c2_ge _ _) h c_1
      refine hK _ _ _ _ _ _ _ ?_
      rw [fdX10_roomiest_78]
      simp only [gt_nil, true_and, eq_self, gt_iload_n, gt_ink, gw_nth, gt_iconst, gt_icmp, gt_aload_n, gt_rfk, gt_get_r, gt_get_i, gt_get_z, gt_iaload, bkX10_roomiest_78, ka0_0, ra0_0_4, ka0_169, ra0_169_14, ka0_194, ra0_194_4, ka0_199, la0_199, (show Int32.toNatClampNeg 0 = 0 from rfl)]
      refine ⟨fun c_2 => ?_, fun c_2 => ?_⟩
      · replace h := gw_ifp2 (gw_c2_eq _ _) h c_2
        exact B_X10_roomiest_99 hcc hss hK hS0 hrec19 h hq
      · replace h := gw_ifn2 (gw_c2_eq _ _) h c_2
        refine ⟨(⟨by decide, by decide⟩ : gw_in 0 2), ?_⟩
        refine ⟨fun c_3 => ?_, fun c_3 => ?_⟩
        · replace h := gw_ifp2 (gw_c2_ge _ _) h c_3
          exact B_X10_roomiest_115 hcc hss hK hS0 hrec19 h hq
        · replace h := gw_ifn2 (gw_c2_ge _ _) h c_3
          exact B_X10_roomiest_99 hcc hss hK hS0 hrec19 h hq
    · replace h := gw_ifn2 (gw_c2_ge _ _) h c_1
      obtain ⟨μ_5, e_6, h⟩ := gw_bnd h
      refine ⟨rfl, 0, 0, hcc, hss, ok_X3_goOn (gw_sub hS0 3 169 (by decide +kernel)) e_6 ?_⟩
      simp only [gt_nil, true_and, eq_self, gt_iinc, gt_ink, gw_nth, gw_set, gt_goto, Option.toList, List.cons_append, List.nil_append, Nat.add_zero, ka0_0, ra0_0_4, ka0_169, ra0_169_14, ka0_194, ra0_194_4, ka0_199, la0_199, (show Int32.toNatClampNeg 0 = 0 from rfl)]
      obtain ⟨w_8, hw_8, h⟩ := gw_lt h
      try rw [← hw_8]
      exact ih h hq
theorem B_X10_roomiest_19 {l : Launch} {x : gw_C} {d : Nat} {S : gw_S} {Q : Option Value → gw_S → gw_M → Prop} {K : Nat → gw_Kt} {mc ms cc ss : Nat} (hcc : cc ≤ mc) (hss : ss ≤ ms) (hK : gw_cl l x (d + 6) mc ms bsX10_roomiest Q K) {a0 : Nat} (hS0 : gw_sh S 10 a0) {n0 : Nat} : ∀ {n : Nat} {v1 v2 v3 v4} {u5 : Value} {μ : gw_M} {r μ'}, F_X10_roomiest_19 n0 a0 n v1 v2 v3 v4 μ = some (r, μ') → Q (some (.int r)) S μ' → K 19 [.ref a0, .int v1, .int v2, .int v3, .int v4, u5] [] S μ cc ss := by
  have ka0_0 : gw_kd S a0 = 10 := (hS0 0 _ rfl).1
  have ra0_0_0 : gw_rf S a0 0 = a0 + 1 := (hS0 0 _ rfl).2.2 (0, 1) (by decide)
  have ra0_0_4 : gw_rf S a0 4 = a0 + 169 := (hS0 0 _ rfl).2.2 (4, 169) (by decide)
  have ka0_1 : gw_kd S (a0 + 1) = 3 := (hS0 1 _ rfl).1
  have ka0_169 : gw_kd S (a0 + 169) = 3 := (hS0 169 _ rfl).1
  have ra0_169_1 : gw_rf S (a0 + 169) 1 = a0 + 177 := (hS0 169 _ rfl).2.2 (1, 177) (by decide)
  have ka0_177 : gw_kd S (a0 + 177) = 8 := (hS0 177 _ rfl).1
  intro n
  induction n with
  | zero => intro v1 v2 v3 v4 u5 μ r μ' h hq; simp [F_X10_roomiest_19] at h
  | succ n ih =>
    intro v1 v2 v3 v4 u5 μ r μ' h hq
    simp only [F_X10_roomiest_19] at h
    refine hK _ _ _ _ _ _ _ ?_
    rw [fdX10_roomiest_19]
    simp only [gt_nil, true_and, eq_self, gt_iload, gt_ink, gw_nth, gt_bipush, gt_icmp, gt_aload_n, gt_rfk, gt_get_r, gt_get_i, gt_get_z, gt_v0, gt_v1, gt_v2, gt_v3, gt_v4, gt_v5, gt_put_i, gt_putz, gt_iconst, gt_istore, gw_set, bkX10_roomiest_19, ka0_0, ra0_0_0, ra0_0_4, ka0_1, ka0_169, ra0_169_1, ka0_177]
    refine ⟨fun c_1 => ?_, fun c_1 => ?_⟩
    · replace h := gw_ifp2 (gw_c2_gt _ _) h c_1
      refine hK _ _ _ _ _ _ _ ?_
      rw [fdX10_roomiest_121]
      simp only [gt_nil, true_and, eq_self, gt_iload_n, gt_ink, gw_nth, gt_iret, gt_retz, bkX10_roomiest_121, ka0_0, ra0_0_0, ra0_0_4, ka0_1, ka0_169, ra0_169_1, ka0_177]
      obtain ⟨rfl, rfl⟩ := gw_inj2 h
      exact ⟨hcc, hss, hq⟩
    · replace h := gw_ifn2 (gw_c2_gt _ _) h c_1
      obtain ⟨μ_3, e_4, h⟩ := gw_bnd h
      refine ⟨rfl, 0, 0, hcc, hss, ok_X3_copyFrom (gw_sub hS0 3 169 (by decide +kernel)) (gw_sub hS0 3 1 (by decide +kernel)) e_4 ?_⟩
      simp only [gt_nil, true_and, eq_self, gt_aload_n, gt_rfk, gw_nth, gt_get_r, gt_get_i, gt_get_z, gt_v0, gt_v1, gt_v2, gt_v3, gt_v4, gt_v5, gt_iload, gt_ink, gt_put_i, gt_putz, gt_iconst, gt_istore, gw_set, Option.toList, List.cons_append, List.nil_append, Nat.add_zero, ka0_0, ra0_0_0, ra0_0_4, ka0_1, ka0_169, ra0_169_1, ka0_177]
      obtain ⟨μ_7, e_8, h⟩ := gw_bnd h
      refine ⟨rfl, 0, 0, hcc, hss, ok_X8_dropAll (gw_sub hS0 8 177 (by decide +kernel)) e_8 ?_⟩
      simp only [gt_nil, true_and, eq_self, gt_aload_n, gt_rfk, gw_nth, gt_get_r, gt_get_i, gt_get_z, gt_iload, gt_ink, gt_put_i, gt_putz, gt_iconst, gt_istore, gw_set, Option.toList, List.cons_append, List.nil_append, Nat.add_zero, ka0_0, ra0_0_0, ra0_0_4, ka0_1, ka0_169, ra0_169_1, ka0_177]
      obtain ⟨μ_10, hμ_10, h⟩ := gw_lt h
      try rw [← hμ_10]
      exact B_X10_roomiest_59 hcc hss hK hS0 ih h hq
theorem ok_X10_roomiest {l : Launch} {x : gw_C} {d : Nat} {S : gw_S} {Q : Option Value → gw_S → gw_M → Prop} {v1 : Int32} {a0 : Nat} {n0 : Nat} {μ : gw_M} {r μ'} (hS0 : gw_sh S 10 a0) (h : F_X10_roomiest n0 a0 v1 μ = some (r, μ')) (hq : Q (some (.int r)) S μ') : gw_ok l x (d + 7) sgX10_roomiest 0 0 [.ref a0, .int v1] S μ Q := by
  refine gw_ok_of stX10_roomiest (lv0 := [.ref a0, .int v1, .retAddr 0, .retAddr 0, .retAddr 0, .retAddr 0]) (Nat.le_of_ble_eq_true rfl) rfl rfl ?_
  intro K hK
  have hcc : 0 ≤ 0 := Nat.zero_le _
  have hss : 0 ≤ 0 := Nat.zero_le _
  have ka0_0 : gw_kd S a0 = 10 := (hS0 0 _ rfl).1
  unfold F_X10_roomiest at h
  refine hK _ _ _ _ _ _ _ ?_
  rw [fdX10_roomiest_0]
  simp only [gt_nil, true_and, eq_self, gt_aload_n, gt_rfk, gw_nth, gt_iload_n, gt_ink, gt_bipush, gt_v0, gt_v1, gt_v2, gt_v3, gt_v4, gt_v5, gt_if, gt_iconst, gt_iret, gt_retz, bkX10_roomiest_0, ka0_0]
  obtain ⟨r_1, e_3, h⟩ := gw_bnd h
  refine ⟨rfl, 0, 0, hcc, hss, ok_X10_mayGo hS0 e_3 ?_⟩
  intro hbr_1
  simp only [gt_nil, true_and, eq_self, gt_if, gt_iconst, gt_iret, gt_retz, Option.toList, List.cons_append, List.nil_append, Nat.add_zero, ka0_0]
  refine ⟨fun c_5 => ?_, fun c_5 => ?_⟩
  · replace h := gw_ifp h c_5
    refine hK _ _ _ _ _ _ _ ?_
    rw [fdX10_roomiest_12]
    simp only [gt_nil, true_and, eq_self, gt_iconst, gt_istore_n, gw_set, gt_istore, bkX10_roomiest_12, ka0_0]
    exact B_X10_roomiest_19 hcc hss hK hS0 h hq
  · replace h := gw_ifn h c_5
    obtain ⟨rfl, rfl⟩ := gw_inj2 h
    exact ⟨hcc, hss, hq⟩
def F_X10_goPlainly_13 (n0 : Nat) (a0 : Nat) : Nat → Int32 → Int32 → gw_M → Option (gw_M)
  | 0, _, _, _ => none
  | n + 1, v1, v2, μ => (if v1 ≤ v2 then some μ else (F_X6_goOn n0 (a0 + 251) μ).bind (fun (μ_3 : gw_M) => gw_let (v2 + 1) (fun (w_6 : Int32) => F_X10_goPlainly_13 n0 a0 n v1 w_6 μ_3)))
def F_X10_goPlainly (n0 : Nat) (a0 : Nat) (v1 : Int32) (μ : gw_M) : Option (gw_M) := (F_X6_startFrom n0 (a0 + 251) (a0 + 1) μ).bind (fun (μ_2 : gw_M) => F_X10_goPlainly_13 n0 a0 n0 v1 0 μ_2)
theorem B_X10_goPlainly_13 {l : Launch} {x : gw_C} {d : Nat} {S : gw_S} {Q : Option Value → gw_S → gw_M → Prop} {K : Nat → gw_Kt} {mc ms cc ss : Nat} (hcc : cc ≤ mc) (hss : ss ≤ ms) (hK : gw_cl l x (d + 4) mc ms bsX10_goPlainly Q K) {a0 : Nat} (hS0 : gw_sh S 10 a0) {n0 : Nat} : ∀ {n : Nat} {v1 v2} {μ : gw_M} {μ'}, F_X10_goPlainly_13 n0 a0 n v1 v2 μ = some μ' → Q none S μ' → K 13 [.ref a0, .int v1, .int v2] [] S μ cc ss := by
  have ka0_0 : gw_kd S a0 = 10 := (hS0 0 _ rfl).1
  have ra0_0_5 : gw_rf S a0 5 = a0 + 251 := (hS0 0 _ rfl).2.2 (5, 251) (by decide)
  have ka0_251 : gw_kd S (a0 + 251) = 6 := (hS0 251 _ rfl).1
  intro n
  induction n with
  | zero => intro v1 v2 μ μ' h hq; simp [F_X10_goPlainly_13] at h
  | succ n ih =>
    intro v1 v2 μ μ' h hq
    simp only [F_X10_goPlainly_13] at h
    refine hK _ _ _ _ _ _ _ ?_
    rw [fdX10_goPlainly_13]
    simp only [gt_nil, true_and, eq_self, gt_iload_n, gt_ink, gw_nth, gt_icmp, gt_aload_n, gt_rfk, gt_get_r, gt_get_i, gt_get_z, gt_v0, gt_v1, gt_v2, gt_v3, gt_v4, gt_v5, gt_iinc, gw_set, gt_goto, bkX10_goPlainly_13, ka0_0, ra0_0_5, ka0_251]
    refine ⟨fun c_1 => ?_, fun c_1 => ?_⟩
    · replace h := gw_ifp2 (gw_c2_ge _ _) h c_1
      refine hK _ _ _ _ _ _ _ ?_
      rw [fdX10_goPlainly_31]
      simp only [gt_nil, true_and, eq_self, gt_vret, bkX10_goPlainly_31, ka0_0, ra0_0_5, ka0_251]
      obtain rfl := gw_inj1 h
      exact ⟨hcc, hss, hq⟩
    · replace h := gw_ifn2 (gw_c2_ge _ _) h c_1
      obtain ⟨μ_3, e_4, h⟩ := gw_bnd h
      refine ⟨rfl, 0, 0, hcc, hss, ok_X6_goOn (gw_sub hS0 6 251 (by decide +kernel)) e_4 ?_⟩
      simp only [gt_nil, true_and, eq_self, gt_iinc, gt_ink, gw_nth, gw_set, gt_goto, Option.toList, List.cons_append, List.nil_append, Nat.add_zero, ka0_0, ra0_0_5, ka0_251]
      obtain ⟨w_6, hw_6, h⟩ := gw_lt h
      try rw [← hw_6]
      exact ih h hq
theorem ok_X10_goPlainly {l : Launch} {x : gw_C} {d : Nat} {S : gw_S} {Q : Option Value → gw_S → gw_M → Prop} {v1 : Int32} {a0 : Nat} {n0 : Nat} {μ : gw_M} {μ'} (hS0 : gw_sh S 10 a0) (h : F_X10_goPlainly n0 a0 v1 μ = some μ') (hq : Q none S μ') : gw_ok l x (d + 5) sgX10_goPlainly 0 0 [.ref a0, .int v1] S μ Q := by
  refine gw_ok_of stX10_goPlainly (lv0 := [.ref a0, .int v1, .retAddr 0]) (Nat.le_of_ble_eq_true rfl) rfl rfl ?_
  intro K hK
  have hcc : 0 ≤ 0 := Nat.zero_le _
  have hss : 0 ≤ 0 := Nat.zero_le _
  have ka0_0 : gw_kd S a0 = 10 := (hS0 0 _ rfl).1
  have ra0_0_0 : gw_rf S a0 0 = a0 + 1 := (hS0 0 _ rfl).2.2 (0, 1) (by decide)
  have ra0_0_5 : gw_rf S a0 5 = a0 + 251 := (hS0 0 _ rfl).2.2 (5, 251) (by decide)
  have ka0_1 : gw_kd S (a0 + 1) = 3 := (hS0 1 _ rfl).1
  have ka0_251 : gw_kd S (a0 + 251) = 6 := (hS0 251 _ rfl).1
  unfold F_X10_goPlainly at h
  refine hK _ _ _ _ _ _ _ ?_
  rw [fdX10_goPlainly_0]
  simp only [gt_nil, true_and, eq_self, gt_aload_n, gt_rfk, gw_nth, gt_get_r, gt_get_i, gt_get_z, gt_v0, gt_v1, gt_v2, gt_v3, gt_v4, gt_v5, gt_iconst, gt_istore_n, gw_set, bkX10_goPlainly_0, ka0_0, ra0_0_0, ra0_0_5, ka0_1, ka0_251]
  obtain ⟨μ_2, e_3, h⟩ := gw_bnd h
  refine ⟨rfl, 0, 0, hcc, hss, ok_X6_startFrom (gw_sub hS0 6 251 (by decide +kernel)) (gw_sub hS0 3 1 (by decide +kernel)) e_3 ?_⟩
  simp only [gt_nil, true_and, eq_self, gt_iconst, gt_istore_n, gw_set, Option.toList, List.cons_append, List.nil_append, Nat.add_zero, ka0_0, ra0_0_0, ra0_0_5, ka0_1, ka0_251]
  exact B_X10_goPlainly_13 hcc hss hK hS0 h hq
def F_X10_plainly (n0 : Nat) (a0 : Nat) (v1 : Int32) (v2 : Int32) (μ : gw_M) : Option (Int32 × gw_M) := (F_X10_within n0 v1 1 200 μ).bind (fun (r_1 : Int32) => (if r_1 = 0 then some ((-1), μ) else (F_X10_isPage n0 v2 μ).bind (fun (r_6 : Int32) => (if ¬ r_6 = 0 then (F_X10_goPlainly n0 a0 v1 μ).bind (fun (μ_12 : gw_M) => (if 0 ≤ v2 ∧ v2.toNatClampNeg < 16 then some ((μ_12 (a0 + 267) v2.toNatClampNeg), μ_12) else none)) else some ((-1), μ)))))
theorem ok_X10_plainly {l : Launch} {x : gw_C} {d : Nat} {S : gw_S} {Q : Option Value → gw_S → gw_M → Prop} {v1 v2 : Int32} {a0 : Nat} {n0 : Nat} {μ : gw_M} {r μ'} (hS0 : gw_sh S 10 a0) (h : F_X10_plainly n0 a0 v1 v2 μ = some (r, μ')) (hq : Q (some (.int r)) S μ') : gw_ok l x (d + 6) sgX10_plainly 0 0 [.ref a0, .int v1, .int v2] S μ Q := by
  refine gw_ok_of stX10_plainly (lv0 := [.ref a0, .int v1, .int v2]) (Nat.le_of_ble_eq_true rfl) rfl rfl ?_
  intro K hK
  have hcc : 0 ≤ 0 := Nat.zero_le _
  have hss : 0 ≤ 0 := Nat.zero_le _
  have ka0_0 : gw_kd S a0 = 10 := (hS0 0 _ rfl).1
  have ra0_0_5 : gw_rf S a0 5 = a0 + 251 := (hS0 0 _ rfl).2.2 (5, 251) (by decide)
  have ka0_251 : gw_kd S (a0 + 251) = 6 := (hS0 251 _ rfl).1
  have ra0_251_1 : gw_rf S (a0 + 251) 1 = a0 + 267 := (hS0 251 _ rfl).2.2 (1, 267) (by decide)
  have ka0_267 : gw_kd S (a0 + 267) = 12 := (hS0 267 _ rfl).1
  have la0_267 : gw_ln S (a0 + 267) = 16 := (hS0 267 _ rfl).2.1
  unfold F_X10_plainly at h
  refine hK _ _ _ _ _ _ _ ?_
  rw [fdX10_plainly_0]
  simp only [gt_nil, true_and, eq_self, gt_iload_n, gt_ink, gw_nth, gt_iconst, gt_sipush, gt_s1_0, gt_s2_0, gt_s3_0, gt_s4_0, gt_s1_1, gt_s2_1, gt_s3_1, gt_s4_1, gt_acpy, gt_if, bkX10_plainly_0, ka0_0, ra0_0_5, ka0_251, ra0_251_1, ka0_267, la0_267]
  obtain ⟨r_1, e_3, h⟩ := gw_bnd h
  refine ⟨rfl, 0, 0, hcc, hss, ok_X10_within e_3 ?_⟩
  intro hbr_1
  simp only [gt_nil, true_and, eq_self, gt_if, gt_iload_n, gt_ink, gw_nth, gt_s1_0, gt_s2_0, gt_s3_0, gt_s4_0, gt_s1_1, gt_s2_1, gt_s3_1, gt_s4_1, gt_acpy, Option.toList, List.cons_append, List.nil_append, Nat.add_zero, ka0_0, ra0_0_5, ka0_251, ra0_251_1, ka0_267, la0_267]
  refine ⟨fun c_5 => ?_, fun c_5 => ?_⟩
  · replace h := gw_ifp h c_5
    refine hK _ _ _ _ _ _ _ ?_
    rw [fdX10_plainly_18]
    simp only [gt_nil, true_and, eq_self, gt_iconst, gt_iret, gt_retz, bkX10_plainly_18, ka0_0, ra0_0_5, ka0_251, ra0_251_1, ka0_267, la0_267]
    obtain ⟨rfl, rfl⟩ := gw_inj2 h
    exact ⟨hcc, hss, hq⟩
  · replace h := gw_ifn h c_5
    obtain ⟨r_6, e_8, h⟩ := gw_bnd h
    refine ⟨rfl, 0, 0, hcc, hss, ok_X10_isPage e_8 ?_⟩
    intro hbr_6
    simp only [gt_nil, true_and, eq_self, gt_if, Option.toList, List.cons_append, List.nil_append, Nat.add_zero, ka0_0, ra0_0_5, ka0_251, ra0_251_1, ka0_267, la0_267]
    refine ⟨fun c_10 => ?_, fun c_10 => ?_⟩
    · replace h := gw_ifp h c_10
      refine hK _ _ _ _ _ _ _ ?_
      rw [fdX10_plainly_20]
      simp only [gt_nil, true_and, eq_self, gt_aload_n, gt_rfk, gw_nth, gt_iload_n, gt_ink, gt_v0, gt_v1, gt_v2, gt_v3, gt_v4, gt_v5, gt_get_r, gt_get_i, gt_get_z, gt_iaload, gt_iret, gt_retz, bkX10_plainly_20, ka0_0, ra0_0_5, ka0_251, ra0_251_1, ka0_267, la0_267]
      obtain ⟨μ_12, e_13, h⟩ := gw_bnd h
      refine ⟨rfl, 0, 0, hcc, hss, ok_X10_goPlainly hS0 e_13 ?_⟩
      simp only [gt_nil, true_and, eq_self, gt_aload_n, gt_rfk, gw_nth, gt_get_r, gt_get_i, gt_get_z, gt_iload_n, gt_ink, gt_iaload, gt_iret, gt_retz, Option.toList, List.cons_append, List.nil_append, Nat.add_zero, ka0_0, ra0_0_5, ka0_251, ra0_251_1, ka0_267, la0_267]
      obtain ⟨c_15, h⟩ := gw_ife h
      refine ⟨c_15, ?_⟩
      obtain ⟨rfl, rfl⟩ := gw_inj2 h
      exact ⟨hcc, hss, hq⟩
    · replace h := gw_ifn h c_10
      refine hK _ _ _ _ _ _ _ ?_
      rw [fdX10_plainly_18]
      simp only [gt_nil, true_and, eq_self, gt_iconst, gt_iret, gt_retz, bkX10_plainly_18, ka0_0, ra0_0_5, ka0_251, ra0_251_1, ka0_267, la0_267]
      obtain ⟨rfl, rfl⟩ := gw_inj2 h
      exact ⟨hcc, hss, hq⟩
def F_X10_plainTraps (n0 : Nat) (a0 : Nat) (v1 : Int32) (μ : gw_M) : Option (Int32 × gw_M) := (F_X10_within n0 v1 1 200 μ).bind (fun (r_1 : Int32) => (if ¬ r_1 = 0 then (F_X10_goPlainly n0 a0 v1 μ).bind (fun (μ_7 : gw_M) => some ((μ_7 (a0 + 251) 2), μ_7)) else some ((-1), μ)))
theorem ok_X10_plainTraps {l : Launch} {x : gw_C} {d : Nat} {S : gw_S} {Q : Option Value → gw_S → gw_M → Prop} {v1 : Int32} {a0 : Nat} {n0 : Nat} {μ : gw_M} {r μ'} (hS0 : gw_sh S 10 a0) (h : F_X10_plainTraps n0 a0 v1 μ = some (r, μ')) (hq : Q (some (.int r)) S μ') : gw_ok l x (d + 6) sgX10_plainTraps 0 0 [.ref a0, .int v1] S μ Q := by
  refine gw_ok_of stX10_plainTraps (lv0 := [.ref a0, .int v1]) (Nat.le_of_ble_eq_true rfl) rfl rfl ?_
  intro K hK
  have hcc : 0 ≤ 0 := Nat.zero_le _
  have hss : 0 ≤ 0 := Nat.zero_le _
  have ka0_0 : gw_kd S a0 = 10 := (hS0 0 _ rfl).1
  have ra0_0_5 : gw_rf S a0 5 = a0 + 251 := (hS0 0 _ rfl).2.2 (5, 251) (by decide)
  have ka0_251 : gw_kd S (a0 + 251) = 6 := (hS0 251 _ rfl).1
  unfold F_X10_plainTraps at h
  refine hK _ _ _ _ _ _ _ ?_
  rw [fdX10_plainTraps_0]
  simp only [gt_nil, true_and, eq_self, gt_iload_n, gt_ink, gw_nth, gt_iconst, gt_sipush, gt_s1_0, gt_s2_0, gt_s3_0, gt_s4_0, gt_s1_1, gt_s2_1, gt_s3_1, gt_s4_1, gt_acpy, gt_if, gt_iret, gt_retz, bkX10_plainTraps_0, ka0_0, ra0_0_5, ka0_251]
  obtain ⟨r_1, e_3, h⟩ := gw_bnd h
  refine ⟨rfl, 0, 0, hcc, hss, ok_X10_within e_3 ?_⟩
  intro hbr_1
  simp only [gt_nil, true_and, eq_self, gt_if, gt_iconst, gt_iret, gt_retz, Option.toList, List.cons_append, List.nil_append, Nat.add_zero, ka0_0, ra0_0_5, ka0_251]
  refine ⟨fun c_5 => ?_, fun c_5 => ?_⟩
  · replace h := gw_ifp h c_5
    refine hK _ _ _ _ _ _ _ ?_
    rw [fdX10_plainTraps_13]
    simp only [gt_nil, true_and, eq_self, gt_aload_n, gt_rfk, gw_nth, gt_iload_n, gt_ink, gt_v0, gt_v1, gt_v2, gt_v3, gt_v4, gt_v5, gt_get_r, gt_get_i, gt_get_z, gt_iret, gt_retz, bkX10_plainTraps_13, ka0_0, ra0_0_5, ka0_251]
    obtain ⟨μ_7, e_8, h⟩ := gw_bnd h
    refine ⟨rfl, 0, 0, hcc, hss, ok_X10_goPlainly hS0 e_8 ?_⟩
    simp only [gt_nil, true_and, eq_self, gt_aload_n, gt_rfk, gw_nth, gt_get_r, gt_get_i, gt_get_z, gt_iret, gt_retz, Option.toList, List.cons_append, List.nil_append, Nat.add_zero, ka0_0, ra0_0_5, ka0_251]
    obtain ⟨rfl, rfl⟩ := gw_inj2 h
    exact ⟨hcc, hss, hq⟩
  · replace h := gw_ifn h c_5
    obtain ⟨rfl, rfl⟩ := gw_inj2 h
    exact ⟨hcc, hss, hq⟩
def F_X10_plainHeard (n0 : Nat) (a0 : Nat) (v1 : Int32) (μ : gw_M) : Option (Int32 × gw_M) := (F_X10_within n0 v1 1 200 μ).bind (fun (r_1 : Int32) => (if ¬ r_1 = 0 then (F_X10_goPlainly n0 a0 v1 μ).bind (fun (μ_7 : gw_M) => some ((μ_7 (a0 + 251) 3), μ_7)) else some ((-1), μ)))
theorem ok_X10_plainHeard {l : Launch} {x : gw_C} {d : Nat} {S : gw_S} {Q : Option Value → gw_S → gw_M → Prop} {v1 : Int32} {a0 : Nat} {n0 : Nat} {μ : gw_M} {r μ'} (hS0 : gw_sh S 10 a0) (h : F_X10_plainHeard n0 a0 v1 μ = some (r, μ')) (hq : Q (some (.int r)) S μ') : gw_ok l x (d + 6) sgX10_plainHeard 0 0 [.ref a0, .int v1] S μ Q := by
  refine gw_ok_of stX10_plainHeard (lv0 := [.ref a0, .int v1]) (Nat.le_of_ble_eq_true rfl) rfl rfl ?_
  intro K hK
  have hcc : 0 ≤ 0 := Nat.zero_le _
  have hss : 0 ≤ 0 := Nat.zero_le _
  have ka0_0 : gw_kd S a0 = 10 := (hS0 0 _ rfl).1
  have ra0_0_5 : gw_rf S a0 5 = a0 + 251 := (hS0 0 _ rfl).2.2 (5, 251) (by decide)
  have ka0_251 : gw_kd S (a0 + 251) = 6 := (hS0 251 _ rfl).1
  unfold F_X10_plainHeard at h
  refine hK _ _ _ _ _ _ _ ?_
  rw [fdX10_plainHeard_0]
  simp only [gt_nil, true_and, eq_self, gt_iload_n, gt_ink, gw_nth, gt_iconst, gt_sipush, gt_s1_0, gt_s2_0, gt_s3_0, gt_s4_0, gt_s1_1, gt_s2_1, gt_s3_1, gt_s4_1, gt_acpy, gt_if, gt_iret, gt_retz, bkX10_plainHeard_0, ka0_0, ra0_0_5, ka0_251]
  obtain ⟨r_1, e_3, h⟩ := gw_bnd h
  refine ⟨rfl, 0, 0, hcc, hss, ok_X10_within e_3 ?_⟩
  intro hbr_1
  simp only [gt_nil, true_and, eq_self, gt_if, gt_iconst, gt_iret, gt_retz, Option.toList, List.cons_append, List.nil_append, Nat.add_zero, ka0_0, ra0_0_5, ka0_251]
  refine ⟨fun c_5 => ?_, fun c_5 => ?_⟩
  · replace h := gw_ifp h c_5
    refine hK _ _ _ _ _ _ _ ?_
    rw [fdX10_plainHeard_13]
    simp only [gt_nil, true_and, eq_self, gt_aload_n, gt_rfk, gw_nth, gt_iload_n, gt_ink, gt_v0, gt_v1, gt_v2, gt_v3, gt_v4, gt_v5, gt_get_r, gt_get_i, gt_get_z, gt_iret, gt_retz, bkX10_plainHeard_13, ka0_0, ra0_0_5, ka0_251]
    obtain ⟨μ_7, e_8, h⟩ := gw_bnd h
    refine ⟨rfl, 0, 0, hcc, hss, ok_X10_goPlainly hS0 e_8 ?_⟩
    simp only [gt_nil, true_and, eq_self, gt_aload_n, gt_rfk, gw_nth, gt_get_r, gt_get_i, gt_get_z, gt_iret, gt_retz, Option.toList, List.cons_append, List.nil_append, Nat.add_zero, ka0_0, ra0_0_5, ka0_251]
    obtain ⟨rfl, rfl⟩ := gw_inj2 h
    exact ⟨hcc, hss, hq⟩
  · replace h := gw_ifn h c_5
    obtain ⟨rfl, rfl⟩ := gw_inj2 h
    exact ⟨hcc, hss, hq⟩
def F_X10_steps (n0 : Nat) (a0 : Nat) (μ : gw_M) : Option (Int32) := some (μ (a0 + 83) 2)
theorem ok_X10_steps {l : Launch} {x : gw_C} {d : Nat} {S : gw_S} {Q : Option Value → gw_S → gw_M → Prop} {a0 : Nat} {n0 : Nat} {μ : gw_M} {r} (hS0 : gw_sh S 10 a0) (h : F_X10_steps n0 a0 μ = some r) (hq : Q (some (.int r)) S μ) : gw_ok l x (d + 1) sgX10_steps 0 0 [.ref a0] S μ Q := by
  refine gw_ok_of stX10_steps (lv0 := [.ref a0]) (Nat.le_of_ble_eq_true rfl) rfl rfl ?_
  intro K hK
  have hcc : 0 ≤ 0 := Nat.zero_le _
  have hss : 0 ≤ 0 := Nat.zero_le _
  have ka0_0 : gw_kd S a0 = 10 := (hS0 0 _ rfl).1
  have ra0_0_1 : gw_rf S a0 1 = a0 + 83 := (hS0 0 _ rfl).2.2 (1, 83) (by decide)
  have ka0_83 : gw_kd S (a0 + 83) = 5 := (hS0 83 _ rfl).1
  unfold F_X10_steps at h
  refine hK _ _ _ _ _ _ _ ?_
  rw [fdX10_steps_0]
  simp only [gt_nil, true_and, eq_self, gt_aload_n, gt_rfk, gw_nth, gt_get_r, gt_get_i, gt_get_z, gt_iret, gt_retz, bkX10_steps_0, ka0_0, ra0_0_1, ka0_83]
  obtain rfl := gw_inj1 h
  exact ⟨hcc, hss, hq⟩
def F_X11_isIn_14 (n0 : Nat) (μ : gw_M) : Option (Int32) := some 0
def F_X11_isIn (n0 : Nat) (v0 : Int32) (v1 : Int32) (v2 : Int32) (μ : gw_M) : Option (Int32) := (if v0 < v1 then F_X11_isIn_14 n0 μ else (if v2 < v0 then F_X11_isIn_14 n0 μ else some 1))
theorem B_X11_isIn_14 {l : Launch} {x : gw_C} {d : Nat} {S : gw_S} {Q : Option Value → gw_S → gw_M → Prop} {K : Nat → gw_Kt} {mc ms cc ss : Nat} (hcc : cc ≤ mc) (hss : ss ≤ ms) (hK : gw_cl l x (d + 0) mc ms bsX11_isIn Q K) {n0 : Nat}  {u0 u1 u2 : Value} {μ : gw_M} {r} (h : F_X11_isIn_14 n0 μ = some r) (hq : ((r = 0 ∨ r = 1) → Q (some (.int r)) S μ)) : K 14 [u0, u1, u2] [] S μ cc ss := by
  unfold F_X11_isIn_14 at h
  refine hK _ _ _ _ _ _ _ ?_
  rw [fdX11_isIn_14]
  simp only [gt_nil, true_and, eq_self, gt_iconst, bkX11_isIn_14]
  refine hK _ _ _ _ _ _ _ ?_
  rw [fdX11_isIn_15]
  simp only [gt_nil, true_and, eq_self, gt_iret, gt_retz, bkX11_isIn_15]
  obtain rfl := gw_inj1 h
  exact ⟨(Or.inl rfl), hcc, hss, hq (Or.inl rfl)⟩
theorem ok_X11_isIn {l : Launch} {x : gw_C} {d : Nat} {S : gw_S} {Q : Option Value → gw_S → gw_M → Prop} {v0 v1 v2 : Int32} {n0 : Nat} {μ : gw_M} {r} (h : F_X11_isIn n0 v0 v1 v2 μ = some r) (hq : ((r = 0 ∨ r = 1) → Q (some (.int r)) S μ)) : gw_ok l x (d + 1) sgX11_isIn 0 0 [.int v0, .int v1, .int v2] S μ Q := by
  refine gw_ok_of stX11_isIn (lv0 := [.int v0, .int v1, .int v2]) (Nat.le_of_ble_eq_true rfl) rfl rfl ?_
  intro K hK
  have hcc : 0 ≤ 0 := Nat.zero_le _
  have hss : 0 ≤ 0 := Nat.zero_le _
  unfold F_X11_isIn at h
  refine hK _ _ _ _ _ _ _ ?_
  rw [fdX11_isIn_0]
  simp only [gt_nil, true_and, eq_self, gt_iload_n, gt_ink, gw_nth, gt_icmp, gt_iconst, gt_goto, bkX11_isIn_0]
  refine ⟨fun c_1 => ?_, fun c_1 => ?_⟩
  · replace h := gw_ifp2 (gw_c2_lt _ _) h c_1
    exact B_X11_isIn_14 hcc hss hK h hq
  · replace h := gw_ifn2 (gw_c2_lt _ _) h c_1
    refine ⟨fun c_2 => ?_, fun c_2 => ?_⟩
    · replace h := gw_ifp2 (gw_c2_gt _ _) h c_2
      exact B_X11_isIn_14 hcc hss hK h hq
    · replace h := gw_ifn2 (gw_c2_gt _ _) h c_2
      refine hK _ _ _ _ _ _ _ ?_
      rw [fdX11_isIn_15]
      simp only [gt_nil, true_and, eq_self, gt_iret, gt_retz, bkX11_isIn_15]
      obtain rfl := gw_inj1 h
      exact ⟨(Or.inr rfl), hcc, hss, hq (Or.inr rfl)⟩
