/-! ===== a new GuestLevels: as before, and nothing to take back ===== -/
theorem ctorM_X5 {l : Launch} {x : gw_C} {d a0 : Nat} {S : gw_S} {μ : gw_M} {Q : Option Value → gw_S → gw_M → Prop} (hn : gw_nn S = a0) (hk : gw_kd S a0 = 5) (hr : ∀ j, gw_rf S a0 j = 0) (hm : ∀ j, μ a0 j = 0) (hl : gw_ln S a0 = 0) (h1 : ¬ a0 = 0) (hq : ∀ S' μ', gw_made S μ S' μ' 5 a0 → (∀ j, gw_rf S' (a0 + 1) j = 0) → Q none S' μ') : gw_ok l x (d + 2) sgX5_init 1 20 [.ref a0] S μ Q := ctor_X5 hn hk hr hm hl h1 (hq _ _ (mk_X5 hn hk hr hm hl) (fun j => by unfold S_X5; rw [rf_sr, if_neg (by omega), rf_new, if_pos (by omega)]))
set_option maxRecDepth 20000 in
theorem ctorM_X10 {l : Launch} {x : gw_C} {d a0 : Nat} {S : gw_S} {μ : gw_M} {Q : Option Value → gw_S → gw_M → Prop} (hn : gw_nn S = a0) (hk : gw_kd S a0 = 10) (hr : ∀ j, gw_rf S a0 j = 0) (hm : ∀ j, μ a0 j = 0) (hl : gw_ln S a0 = 0) (h1 : ¬ a0 = 0) (hq : ∀ S' μ', gw_made S μ S' μ' 10 a0 → (∀ j, gw_rf S' (a0 + 84) j = 0) → (∀ j, gw_rf S' (a0 + 168) j = 0) → Q none S' μ') : gw_ok l x (d + 6) sgX10_init 267 3597 [.ref a0] S μ Q := by
  refine gw_ok_of stX10_init (lv0 := [.ref a0]) (Nat.le_of_ble_eq_true rfl) rfl rfl ?_
  intro K hK
  have hp := pg_start [] [] hn hk hr hm hl
  refine hK _ _ _ _ _ _ _ ?_
  rw [fdX10_init_0]
  simp only [bkX10_init_0, hn, gt_nil, gt_aload_n, gt_rfk, gw_nth, gw_set, gt_new, gt_newa, gt_anewa, gt_obj, gt_sp0, gt_sp1, gt_put_r, gt_put_i, gt_dup_i, gt_dup_r, gt_iconst, gt_bipush, gt_istore_n, gt_iastore, gt_get_r, gt_s2_0, gt_vret, nn_new, nn_sr, Nat.add_assoc, Nat.reduceAdd, Option.toList, List.cons_append, List.nil_append, Nat.add_zero, Nat.zero_add, (show Int32.toNatClampNeg 0 = 0 from rfl), (show Int32.toNatClampNeg 1 = 1 from rfl)]
  refine ⟨h1, ?_⟩
  refine ⟨by decide, by decide, ?_⟩
  have nf := gw_newf (μ := fun _ _ => 0) (c := 3) (a0 := a0) (m := 0) hp.1 1 rfl
  refine ⟨by omega, rfl, 81, 1092, by decide, by decide, ctorN_X3 nf.1 nf.2.1 nf.2.2.1 (fun jj => by simp [gw_row]) nf.2.2.2.2 (by omega) (fun S1 μ1 hm1 => ?_)⟩
  replace hp := pg_sub2 hp 3 81 1 82 rfl rfl rfl hm1 (by decide +kernel) (by decide +kernel)
  replace hn := hp.1
  simp only [hn, gt_nil, gt_aload_n, gt_rfk, gw_nth, gw_set, gt_new, gt_newa, gt_anewa, gt_obj, gt_sp0, gt_sp1, gt_put_r, gt_put_i, gt_dup_i, gt_dup_r, gt_iconst, gt_bipush, gt_istore_n, gt_iastore, gt_get_r, gt_s2_0, gt_vret, nn_new, nn_sr, Nat.add_assoc, Nat.reduceAdd, Option.toList, List.cons_append, List.nil_append, Nat.add_zero, Nat.zero_add, (show Int32.toNatClampNeg 0 = 0 from rfl), (show Int32.toNatClampNeg 1 = 1 from rfl)]
  refine ⟨hp.2.1, by omega, ?_⟩
  replace hp := pg_ref hp 0 (a0 + 1)
  refine ⟨by decide, by decide, ?_⟩
  have nf := gw_newf (μ := fun _ _ => 0) (c := 5) (a0 := a0) (m := 82) hp.1 83 rfl
  refine ⟨by omega, rfl, 1, 20, by decide, by decide, ctorM_X5 nf.1 nf.2.1 nf.2.2.1 (fun jj => by simp [gw_row]) nf.2.2.2.2 (by omega) (fun S2 μ2 hm2 z2 => ?_)⟩
  replace hp := pg_sub2 hp 5 1 83 84 rfl rfl rfl hm2 (by decide +kernel) (by decide +kernel)
  replace hn := hp.1
  simp only [hn, gt_nil, gt_aload_n, gt_rfk, gw_nth, gw_set, gt_new, gt_newa, gt_anewa, gt_obj, gt_sp0, gt_sp1, gt_put_r, gt_put_i, gt_dup_i, gt_dup_r, gt_iconst, gt_bipush, gt_istore_n, gt_iastore, gt_get_r, gt_s2_0, gt_vret, nn_new, nn_sr, Nat.add_assoc, Nat.reduceAdd, Option.toList, List.cons_append, List.nil_append, Nat.add_zero, Nat.zero_add, (show Int32.toNatClampNeg 0 = 0 from rfl), (show Int32.toNatClampNeg 1 = 1 from rfl)]
  refine ⟨hp.2.1, by omega, ?_⟩
  replace hp := pg_ref hp 1 (a0 + 83)
  refine ⟨by decide, by decide, ?_⟩
  have nf := gw_newf (μ := fun _ _ => 0) (c := 3) (a0 := a0) (m := 84) hp.1 85 rfl
  refine ⟨by omega, rfl, 81, 1092, by decide, by decide, ctorN_X3 nf.1 nf.2.1 nf.2.2.1 (fun jj => by simp [gw_row]) nf.2.2.2.2 (by omega) (fun S3 μ3 hm3 => ?_)⟩
  have z3 : ∀ j, gw_rf S3 (a0 + 84) j = 0 := fun j => ((hm3.2.2.2 (a0 + 84) (by omega)).2.2.1 j).trans (by rw [rf_new, if_neg (by rw [hp.1]; omega), rf_sr, if_neg (by omega)]; exact z2 j)
  replace hp := pg_sub2 hp 3 81 85 166 rfl rfl rfl hm3 (by decide +kernel) (by decide +kernel)
  replace hn := hp.1
  simp only [hn, gt_nil, gt_aload_n, gt_rfk, gw_nth, gw_set, gt_new, gt_newa, gt_anewa, gt_obj, gt_sp0, gt_sp1, gt_put_r, gt_put_i, gt_dup_i, gt_dup_r, gt_iconst, gt_bipush, gt_istore_n, gt_iastore, gt_get_r, gt_s2_0, gt_vret, nn_new, nn_sr, Nat.add_assoc, Nat.reduceAdd, Option.toList, List.cons_append, List.nil_append, Nat.add_zero, Nat.zero_add, (show Int32.toNatClampNeg 0 = 0 from rfl), (show Int32.toNatClampNeg 1 = 1 from rfl)]
  refine ⟨hp.2.1, by omega, ?_⟩
  replace hp := pg_ref hp 2 (a0 + 85)
  refine ⟨by decide, by decide, ?_⟩
  have nf := gw_newf (μ := fun _ _ => 0) (c := 5) (a0 := a0) (m := 166) hp.1 167 rfl
  refine ⟨by omega, rfl, 1, 20, by decide, by decide, ctorM_X5 nf.1 nf.2.1 nf.2.2.1 (fun jj => by simp [gw_row]) nf.2.2.2.2 (by omega) (fun S4 μ4 hm4 y4 => ?_)⟩
  have z4 : ∀ j, gw_rf S4 (a0 + 84) j = 0 := fun j => ((hm4.2.2.2 (a0 + 84) (by omega)).2.2.1 j).trans (by rw [rf_new, if_neg (by rw [hp.1]; omega), rf_sr, if_neg (by omega)]; exact z3 j)
  replace hp := pg_sub2 hp 5 1 167 168 rfl rfl rfl hm4 (by decide +kernel) (by decide +kernel)
  replace hn := hp.1
  simp only [hn, gt_nil, gt_aload_n, gt_rfk, gw_nth, gw_set, gt_new, gt_newa, gt_anewa, gt_obj, gt_sp0, gt_sp1, gt_put_r, gt_put_i, gt_dup_i, gt_dup_r, gt_iconst, gt_bipush, gt_istore_n, gt_iastore, gt_get_r, gt_s2_0, gt_vret, nn_new, nn_sr, Nat.add_assoc, Nat.reduceAdd, Option.toList, List.cons_append, List.nil_append, Nat.add_zero, Nat.zero_add, (show Int32.toNatClampNeg 0 = 0 from rfl), (show Int32.toNatClampNeg 1 = 1 from rfl)]
  refine ⟨hp.2.1, by omega, ?_⟩
  replace hp := pg_ref hp 3 (a0 + 167)
  refine ⟨by decide, by decide, ?_⟩
  have nf := gw_newf (μ := fun _ _ => 0) (c := 3) (a0 := a0) (m := 168) hp.1 169 rfl
  refine ⟨by omega, rfl, 81, 1092, by decide, by decide, ctorN_X3 nf.1 nf.2.1 nf.2.2.1 (fun jj => by simp [gw_row]) nf.2.2.2.2 (by omega) (fun S5 μ5 hm5 => ?_)⟩
  have z5 : ∀ j, gw_rf S5 (a0 + 84) j = 0 := fun j => ((hm5.2.2.2 (a0 + 84) (by omega)).2.2.1 j).trans (by rw [rf_new, if_neg (by rw [hp.1]; omega), rf_sr, if_neg (by omega)]; exact z4 j)
  have y5 : ∀ j, gw_rf S5 (a0 + 168) j = 0 := fun j => ((hm5.2.2.2 (a0 + 168) (by omega)).2.2.1 j).trans (by rw [rf_new, if_neg (by rw [hp.1]; omega), rf_sr, if_neg (by omega)]; exact y4 j)
  replace hp := pg_sub2 hp 3 81 169 250 rfl rfl rfl hm5 (by decide +kernel) (by decide +kernel)
  replace hn := hp.1
  simp only [hn, gt_nil, gt_aload_n, gt_rfk, gw_nth, gw_set, gt_new, gt_newa, gt_anewa, gt_obj, gt_sp0, gt_sp1, gt_put_r, gt_put_i, gt_dup_i, gt_dup_r, gt_iconst, gt_bipush, gt_istore_n, gt_iastore, gt_get_r, gt_s2_0, gt_vret, nn_new, nn_sr, Nat.add_assoc, Nat.reduceAdd, Option.toList, List.cons_append, List.nil_append, Nat.add_zero, Nat.zero_add, (show Int32.toNatClampNeg 0 = 0 from rfl), (show Int32.toNatClampNeg 1 = 1 from rfl)]
  refine ⟨hp.2.1, by omega, ?_⟩
  replace hp := pg_ref hp 4 (a0 + 169)
  refine ⟨by decide, by decide, ?_⟩
  have nf := gw_newf (μ := fun _ _ => 0) (c := 6) (a0 := a0) (m := 250) hp.1 251 rfl
  refine ⟨by omega, rfl, 16, 226, by decide, by decide, ctorN_X6 nf.1 nf.2.1 nf.2.2.1 (fun jj => by simp [gw_row]) nf.2.2.2.2 (by omega) (fun S6 μ6 hm6 => ?_)⟩
  have z6 : ∀ j, gw_rf S6 (a0 + 84) j = 0 := fun j => ((hm6.2.2.2 (a0 + 84) (by omega)).2.2.1 j).trans (by rw [rf_new, if_neg (by rw [hp.1]; omega), rf_sr, if_neg (by omega)]; exact z5 j)
  have y6 : ∀ j, gw_rf S6 (a0 + 168) j = 0 := fun j => ((hm6.2.2.2 (a0 + 168) (by omega)).2.2.1 j).trans (by rw [rf_new, if_neg (by rw [hp.1]; omega), rf_sr, if_neg (by omega)]; exact y5 j)
  replace hp := pg_sub2 hp 6 16 251 267 rfl rfl rfl hm6 (by decide +kernel) (by decide +kernel)
  replace hn := hp.1
  simp only [hn, gt_nil, gt_aload_n, gt_rfk, gw_nth, gw_set, gt_new, gt_newa, gt_anewa, gt_obj, gt_sp0, gt_sp1, gt_put_r, gt_put_i, gt_dup_i, gt_dup_r, gt_iconst, gt_bipush, gt_istore_n, gt_iastore, gt_get_r, gt_s2_0, gt_vret, nn_new, nn_sr, Nat.add_assoc, Nat.reduceAdd, Option.toList, List.cons_append, List.nil_append, Nat.add_zero, Nat.zero_add, (show Int32.toNatClampNeg 0 = 0 from rfl), (show Int32.toNatClampNeg 1 = 1 from rfl)]
  refine ⟨hp.2.1, by omega, ?_⟩
  replace hp := pg_ref hp 5 (a0 + 251)
  refine ⟨by decide, by decide, hq _ _ (pg_end hp rfl rfl rfl rfl ?_ ?_ ?_ ?_) (fun j => by rw [rf_sr, if_neg (by omega)]; exact z6 j) (fun j => by rw [rf_sr, if_neg (by omega)]; exact y6 j)⟩
  · intro r hr
    simp only [List.mem_cons, List.not_mem_nil, or_false] at hr
    rcases hr with rfl | rfl | rfl | rfl | rfl | rfl <;> rfl
  · intro j v hv
    match j, hv with
    | 0, hv => obtain rfl := Option.some.inj hv; rfl
    | 1, hv => obtain rfl := Option.some.inj hv; rfl
    | 2, hv => obtain rfl := Option.some.inj hv; rfl
    | 3, hv => obtain rfl := Option.some.inj hv; rfl
    | 4, hv => obtain rfl := Option.some.inj hv; rfl
    | 5, hv => obtain rfl := Option.some.inj hv; rfl
    | n + 6, hv => simp at hv
  · exact fun k hk => by cases hk
  · exact fun k hk => by cases hk
