theorem pg_fil {S0 S : gw_S} {μ0 μ : gw_M} {c a0 m : Nat} {ex em : List Nat} {R : Nat → Nat} {I : Nat → Int32} (h : gw_pg S0 μ0 c a0 m ex em R I S μ) (k n : Nat) (v : Int32) (hk : k ∈ em) (h1 : 1 ≤ k) : gw_pg S0 μ0 c a0 m ex em R I S (gw_fil μ (a0 + k) n v) := pg_ex h k hk h1 (fun b hb jj => by simp [gw_fil, hb])
theorem gw_k3_fil {μ : gw_M} {c a0 k n : Nat} {v : Int32} (h : (gw_inl c)[k]? = some (List.replicate n v)) : gw_k3 (gw_fil μ (a0 + k) n v) c a0 k := by
  intro row hrow j w hv
  rw [h] at hrow
  obtain rfl := Option.some.inj hrow
  have hlt := (List.getElem?_eq_some_iff.mp hv).1
  have hm := List.mem_of_getElem? hv
  rw [List.mem_replicate] at hm
  simp only [List.length_replicate] at hlt
  simp [gw_fil, hlt, hm.2]
theorem gw_kp_rf {S S' : gw_S} {μ μ' : gw_M} {c z b : Nat} (hm : gw_made (gw_new S c 0) μ S' μ' c z) (hz : gw_nn S + 1 = z) (hb : b < z) (j : Nat) : gw_rf S' b j = gw_rf S b j := by
  rw [(hm.2.2.2 b hb).2.2.1 j, rf_new, if_neg (by omega)]
theorem gw_rf_sr_ne {S : gw_S} {a k r b j : Nat} (h : j ≠ k) : gw_rf (gw_sr S a k r) b j = gw_rf S b j := by
  rw [rf_sr, if_neg (fun c => h c.2)]
theorem gw_rf_sr_eq {S : gw_S} {a k r : Nat} : gw_rf (gw_sr S a k r) a k = r := by
  rw [rf_sr, if_pos ⟨rfl, rfl⟩]
def gw_lp (μ : gw_M) (a : Nat) : Nat → gw_M
  | 0 => μ
  | k + 1 => gw_up (gw_lp μ a k) a k (nI k * 11)
theorem gw_lp_ne {μ : gw_M} {a b : Nat} (h : b ≠ a) (j : Nat) : ∀ n, gw_lp μ a n b j = μ b j := by
  intro n
  induction n with
  | zero => rfl
  | succ n ih => rw [gw_lp, gw_up_ne h]; exact ih
def S_X8 (S : gw_S) (a0 : Nat) : gw_S := (gw_sr (gw_new (gw_sr (gw_new (gw_sr (gw_new S 12 16) a0 0 (a0 + 1)) 12 16) a0 1 (a0 + 2)) 12 16) a0 2 (a0 + 3))
def M_X8 (μ : gw_M) (a0 : Nat) : gw_M := (gw_fil (gw_row (gw_row (gw_row μ (a0 + 1) (fun _ => 0)) (a0 + 2) (fun _ => 0)) (a0 + 3) (fun _ => 0)) (a0 + 1) 16 (-1))
theorem mk_X8 {a0 : Nat} {S : gw_S} {μ : gw_M} (hn : gw_nn S = a0) (hk : gw_kd S a0 = 8) (hr : ∀ j, gw_rf S a0 j = 0) (hm : ∀ j, μ a0 j = 0) (hl : gw_ln S a0 = 0) : gw_made S μ (S_X8 S a0) (M_X8 μ a0) 8 a0 := by
  have hp := pg_start [] [1] hn hk hr hm hl
  replace hp := pg_arr2 hp 12 16 1 rfl rfl (Or.inr rfl) (Or.inl (by decide))
  replace hp := pg_ref hp 0 (a0 + 1)
  replace hp := pg_arr2 hp 12 16 2 rfl rfl (Or.inr rfl) (Or.inr ⟨16, rfl⟩)
  replace hp := pg_ref hp 1 (a0 + 2)
  replace hp := pg_arr2 hp 12 16 3 rfl rfl (Or.inr rfl) (Or.inr ⟨16, rfl⟩)
  replace hp := pg_ref hp 2 (a0 + 3)
  replace hp := pg_fil hp 1 16 (-1) (by decide) (by decide)
  refine pg_end hp rfl rfl rfl rfl ?_ ?_ ?_ ?_
  · intro r hr
    simp only [List.mem_cons, List.not_mem_nil, or_false] at hr
    rcases hr with rfl | rfl | rfl <;> rfl
  · intro j v hv
    match j, hv with
    | 0, hv => obtain rfl := Option.some.inj hv; rfl
    | 1, hv => obtain rfl := Option.some.inj hv; rfl
    | 2, hv => obtain rfl := Option.some.inj hv; rfl
    | 3, hv => obtain rfl := Option.some.inj hv; rfl
    | n + 4, hv => simp at hv
  · exact fun k hk => by cases hk
  · intro k hk
    rw [List.mem_singleton] at hk
    subst hk
    exact gw_k3_fil rfl
set_option maxRecDepth 20000 in
theorem ctor_X8 {l : Launch} {x : gw_C} {d a0 : Nat} {S : gw_S} {μ : gw_M} {Q : Option Value → gw_S → gw_M → Prop} (hn : gw_nn S = a0) (hk : gw_kd S a0 = 8) (hr : ∀ j, gw_rf S a0 j = 0) (hm : ∀ j, μ a0 j = 0) (hl : gw_ln S a0 = 0) (h1 : ¬ a0 = 0) (hq : Q none (S_X8 S a0) (M_X8 μ a0)) : gw_ok l x (d + 2) sgX8_init 3 48 [.ref a0] S μ Q := by
  refine gw_ok_of stX8_init (lv0 := [.ref a0]) (Nat.le_of_ble_eq_true rfl) rfl rfl ?_
  intro K hK
  have hp := pg_start [] [1] hn hk hr hm hl
  refine hK _ _ _ _ _ _ _ ?_
  rw [fdX8_init_0]
  simp only [bkX8_init_0, hn, gt_nil, gt_aload_n, gt_rfk, gw_nth, gw_set, gt_new, gt_newa, gt_anewa, gt_obj, gt_sp0, gt_sp1, gt_put_r, gt_put_i, gt_dup_i, gt_dup_r, gt_iconst, gt_bipush, gt_istore_n, gt_iastore, gt_get_r, gt_s2_0, gt_vret, nn_new, nn_sr, Nat.add_assoc, Nat.reduceAdd, Option.toList, List.cons_append, List.nil_append, Nat.add_zero, Nat.zero_add, (show Int32.toNatClampNeg 0 = 0 from rfl), (show Int32.toNatClampNeg 1 = 1 from rfl), (show Int32.toNatClampNeg 16 = 16 from rfl)]
  refine ⟨h1, ?_⟩
  refine ⟨⟨by decide, by decide⟩, by decide, by decide, ?_⟩
  replace hp := pg_arr2 hp 12 16 1 rfl rfl (Or.inr rfl) (Or.inl (by decide))
  refine ⟨hp.2.1, by omega, ?_⟩
  replace hp := pg_ref hp 0 (a0 + 1)
  refine ⟨⟨by decide, by decide⟩, by decide, by decide, ?_⟩
  replace hp := pg_arr2 hp 12 16 2 rfl rfl (Or.inr rfl) (Or.inr ⟨16, rfl⟩)
  refine ⟨hp.2.1, by omega, ?_⟩
  replace hp := pg_ref hp 1 (a0 + 2)
  refine ⟨⟨by decide, by decide⟩, by decide, by decide, ?_⟩
  replace hp := pg_arr2 hp 12 16 3 rfl rfl (Or.inr rfl) (Or.inr ⟨16, rfl⟩)
  refine ⟨hp.2.1, by omega, ?_⟩
  replace hp := pg_ref hp 2 (a0 + 3)
  refine ⟨hp.2.1, rfl, 0, 0, by decide, by decide, ?_⟩
  have hg : gw_rf _ a0 0 = a0 + 1 := hp.2.2.1 0
  rw [hg]
  refine ok_J7_fill_53178 (N := 16) (pg_kd hp 1 rfl (by decide) (by decide)).1 (pg_kd hp 1 rfl (by decide) (by decide)).2 (by decide) ?_
  replace hp := pg_fil hp 1 16 (-1) (by decide) (by decide)
  simp only [gt_nil, gt_aload_n, gt_rfk, gw_nth, gw_set, gt_new, gt_newa, gt_anewa, gt_obj, gt_sp0, gt_sp1, gt_put_r, gt_put_i, gt_dup_i, gt_dup_r, gt_iconst, gt_bipush, gt_istore_n, gt_iastore, gt_get_r, gt_s2_0, gt_vret, nn_new, nn_sr, Nat.add_assoc, Nat.reduceAdd, Option.toList, List.cons_append, List.nil_append, Nat.add_zero, Nat.zero_add, (show Int32.toNatClampNeg 0 = 0 from rfl), (show Int32.toNatClampNeg 1 = 1 from rfl), (show Int32.toNatClampNeg 16 = 16 from rfl)]
  exact ⟨by decide, by decide, hq⟩
def S_X7 (S : gw_S) (a0 : Nat) : gw_S := (gw_sr (gw_new (gw_sr (gw_new (gw_sr (gw_new S 12 24) a0 0 (a0 + 1)) 12 24) a0 1 (a0 + 2)) 12 24) a0 2 (a0 + 3))
def M_X7 (μ : gw_M) (a0 : Nat) : gw_M := (gw_row (gw_row (gw_row μ (a0 + 1) (fun _ => 0)) (a0 + 2) (fun _ => 0)) (a0 + 3) (fun _ => 0))
theorem mk_X7 {a0 : Nat} {S : gw_S} {μ : gw_M} (hn : gw_nn S = a0) (hk : gw_kd S a0 = 7) (hr : ∀ j, gw_rf S a0 j = 0) (hm : ∀ j, μ a0 j = 0) (hl : gw_ln S a0 = 0) : gw_made S μ (S_X7 S a0) (M_X7 μ a0) 7 a0 := by
  have hp := pg_start [] [] hn hk hr hm hl
  replace hp := pg_arr2 hp 12 24 1 rfl rfl (Or.inr rfl) (Or.inr ⟨24, rfl⟩)
  replace hp := pg_ref hp 0 (a0 + 1)
  replace hp := pg_arr2 hp 12 24 2 rfl rfl (Or.inr rfl) (Or.inr ⟨24, rfl⟩)
  replace hp := pg_ref hp 1 (a0 + 2)
  replace hp := pg_arr2 hp 12 24 3 rfl rfl (Or.inr rfl) (Or.inr ⟨24, rfl⟩)
  replace hp := pg_ref hp 2 (a0 + 3)
  refine pg_end hp rfl rfl rfl rfl ?_ ?_ ?_ ?_
  · intro r hr
    simp only [List.mem_cons, List.not_mem_nil, or_false] at hr
    rcases hr with rfl | rfl | rfl <;> rfl
  · intro j v hv
    match j, hv with
    | 0, hv => obtain rfl := Option.some.inj hv; rfl
    | 1, hv => obtain rfl := Option.some.inj hv; rfl
    | 2, hv => obtain rfl := Option.some.inj hv; rfl
    | 3, hv => obtain rfl := Option.some.inj hv; rfl
    | 4, hv => obtain rfl := Option.some.inj hv; rfl
    | n + 5, hv => simp at hv
  · exact fun k hk => by cases hk
  · exact fun k hk => by cases hk
set_option maxRecDepth 20000 in
theorem ctor_X7 {l : Launch} {x : gw_C} {d a0 : Nat} {S : gw_S} {μ : gw_M} {Q : Option Value → gw_S → gw_M → Prop} (hn : gw_nn S = a0) (hk : gw_kd S a0 = 7) (hr : ∀ j, gw_rf S a0 j = 0) (hm : ∀ j, μ a0 j = 0) (hl : gw_ln S a0 = 0) (h1 : ¬ a0 = 0) (hq : Q none (S_X7 S a0) (M_X7 μ a0)) : gw_ok l x (d + 2) sgX7_init 3 72 [.ref a0] S μ Q := by
  refine gw_ok_of stX7_init (lv0 := [.ref a0]) (Nat.le_of_ble_eq_true rfl) rfl rfl ?_
  intro K hK
  have hp := pg_start [] [] hn hk hr hm hl
  refine hK _ _ _ _ _ _ _ ?_
  rw [fdX7_init_0]
  simp only [bkX7_init_0, hn, gt_nil, gt_aload_n, gt_rfk, gw_nth, gw_set, gt_new, gt_newa, gt_anewa, gt_obj, gt_sp0, gt_sp1, gt_put_r, gt_put_i, gt_dup_i, gt_dup_r, gt_iconst, gt_bipush, gt_istore_n, gt_iastore, gt_get_r, gt_s2_0, gt_vret, nn_new, nn_sr, Nat.add_assoc, Nat.reduceAdd, Option.toList, List.cons_append, List.nil_append, Nat.add_zero, Nat.zero_add, (show Int32.toNatClampNeg 0 = 0 from rfl), (show Int32.toNatClampNeg 1 = 1 from rfl), (show Int32.toNatClampNeg 24 = 24 from rfl)]
  refine ⟨h1, ?_⟩
  refine ⟨⟨by decide, by decide⟩, by decide, by decide, ?_⟩
  replace hp := pg_arr2 hp 12 24 1 rfl rfl (Or.inr rfl) (Or.inr ⟨24, rfl⟩)
  refine ⟨hp.2.1, by omega, ?_⟩
  replace hp := pg_ref hp 0 (a0 + 1)
  refine ⟨⟨by decide, by decide⟩, by decide, by decide, ?_⟩
  replace hp := pg_arr2 hp 12 24 2 rfl rfl (Or.inr rfl) (Or.inr ⟨24, rfl⟩)
  refine ⟨hp.2.1, by omega, ?_⟩
  replace hp := pg_ref hp 1 (a0 + 2)
  refine ⟨⟨by decide, by decide⟩, by decide, by decide, ?_⟩
  replace hp := pg_arr2 hp 12 24 3 rfl rfl (Or.inr rfl) (Or.inr ⟨24, rfl⟩)
  refine ⟨hp.2.1, by omega, ?_⟩
  replace hp := pg_ref hp 2 (a0 + 3)
  exact ⟨by decide, by decide, hq⟩
def S_X0 (S : gw_S) (a0 : Nat) : gw_S := (gw_sr (gw_new (gw_sr (S_X7 (gw_new S 7 0) (a0 + 1)) a0 0 (a0 + 1)) 12 16) a0 1 (a0 + 5))
def M_X0 (μ : gw_M) (a0 : Nat) : gw_M := (gw_up (gw_row (M_X7 (gw_row μ (a0 + 1) (fun _ => 0)) (a0 + 1)) (a0 + 5) (fun _ => 0)) a0 5 16)
theorem mk_X0 {a0 : Nat} {S : gw_S} {μ : gw_M} (hn : gw_nn S = a0) (hk : gw_kd S a0 = 0) (hr : ∀ j, gw_rf S a0 j = 0) (hm : ∀ j, μ a0 j = 0) (hl : gw_ln S a0 = 0) : gw_made S μ (S_X0 S a0) (M_X0 μ a0) 0 a0 := by
  have hp := pg_start [] [] hn hk hr hm hl
  have nf := gw_newf (μ := fun _ _ => 0) (c := 7) (a0 := a0) (m := 0) hp.1 1 rfl
  have hm1 := mk_X7 (S := (gw_new S 7 0)) (μ := (gw_row μ (a0 + 1) (fun _ => 0))) (a0 := a0 + 1) nf.1 nf.2.1 nf.2.2.1 (fun jj => by simp [gw_row]) nf.2.2.2.2
  replace hp := pg_sub2 hp 7 3 1 4 rfl rfl rfl hm1 (by decide +kernel) (by decide +kernel)
  replace hp := pg_ref hp 0 (a0 + 1)
  replace hp := pg_arr2 hp 12 16 5 rfl rfl (Or.inr rfl) (Or.inr ⟨16, rfl⟩)
  replace hp := pg_ref hp 1 (a0 + 5)
  replace hp := pg_int hp 5 16
  refine pg_end hp rfl rfl rfl rfl ?_ ?_ ?_ ?_
  · intro r hr
    simp only [List.mem_cons, List.not_mem_nil, or_false] at hr
    rcases hr with rfl | rfl <;> rfl
  · intro j v hv
    match j, hv with
    | 0, hv => obtain rfl := Option.some.inj hv; rfl
    | 1, hv => obtain rfl := Option.some.inj hv; rfl
    | 2, hv => obtain rfl := Option.some.inj hv; rfl
    | 3, hv => obtain rfl := Option.some.inj hv; rfl
    | 4, hv => obtain rfl := Option.some.inj hv; rfl
    | 5, hv => obtain rfl := Option.some.inj hv; rfl
    | 6, hv => obtain rfl := Option.some.inj hv; rfl
    | n + 7, hv => simp at hv
  · exact fun k hk => by cases hk
  · exact fun k hk => by cases hk
set_option maxRecDepth 20000 in
theorem ctor_X0 {l : Launch} {x : gw_C} {d a0 : Nat} {S : gw_S} {μ : gw_M} {Q : Option Value → gw_S → gw_M → Prop} (hn : gw_nn S = a0) (hk : gw_kd S a0 = 0) (hr : ∀ j, gw_rf S a0 j = 0) (hm : ∀ j, μ a0 j = 0) (hl : gw_ln S a0 = 0) (h1 : ¬ a0 = 0) (hq : Q none (S_X0 S a0) (M_X0 μ a0)) : gw_ok l x (d + 3) sgX0_init 5 93 [.ref a0] S μ Q := by
  refine gw_ok_of stX0_init (lv0 := [.ref a0]) (Nat.le_of_ble_eq_true rfl) rfl rfl ?_
  intro K hK
  have hp := pg_start [] [] hn hk hr hm hl
  refine hK _ _ _ _ _ _ _ ?_
  rw [fdX0_init_0]
  simp only [bkX0_init_0, hn, gt_nil, gt_aload_n, gt_rfk, gw_nth, gw_set, gt_new, gt_newa, gt_anewa, gt_obj, gt_sp0, gt_sp1, gt_put_r, gt_put_i, gt_dup_i, gt_dup_r, gt_iconst, gt_bipush, gt_istore_n, gt_iastore, gt_get_r, gt_s2_0, gt_vret, nn_new, nn_sr, Nat.add_assoc, Nat.reduceAdd, Option.toList, List.cons_append, List.nil_append, Nat.add_zero, Nat.zero_add, (show Int32.toNatClampNeg 0 = 0 from rfl), (show Int32.toNatClampNeg 1 = 1 from rfl), (show Int32.toNatClampNeg 16 = 16 from rfl)]
  refine ⟨h1, ?_⟩
  refine ⟨by decide, by decide, ?_⟩
  have nf := gw_newf (μ := fun _ _ => 0) (c := 7) (a0 := a0) (m := 0) hp.1 1 rfl
  have hm1 := mk_X7 (S := (gw_new S 7 0)) (μ := (gw_row μ (a0 + 1) (fun _ => 0))) (a0 := a0 + 1) nf.1 nf.2.1 nf.2.2.1 (fun jj => by simp [gw_row]) nf.2.2.2.2
  refine ⟨by omega, rfl, 3, 72, by decide, by decide, ctor_X7 nf.1 nf.2.1 nf.2.2.1 (fun jj => by simp [gw_row]) nf.2.2.2.2 (by omega) ?_⟩
  replace hp := pg_sub2 hp 7 3 1 4 rfl rfl rfl hm1 (by decide +kernel) (by decide +kernel)
  replace hn := hp.1
  simp only [hn, gt_nil, gt_aload_n, gt_rfk, gw_nth, gw_set, gt_new, gt_newa, gt_anewa, gt_obj, gt_sp0, gt_sp1, gt_put_r, gt_put_i, gt_dup_i, gt_dup_r, gt_iconst, gt_bipush, gt_istore_n, gt_iastore, gt_get_r, gt_s2_0, gt_vret, nn_new, nn_sr, Nat.add_assoc, Nat.reduceAdd, Option.toList, List.cons_append, List.nil_append, Nat.add_zero, Nat.zero_add, (show Int32.toNatClampNeg 0 = 0 from rfl), (show Int32.toNatClampNeg 1 = 1 from rfl), (show Int32.toNatClampNeg 16 = 16 from rfl)]
  refine ⟨hp.2.1, by omega, ?_⟩
  replace hp := pg_ref hp 0 (a0 + 1)
  refine ⟨⟨by decide, by decide⟩, by decide, by decide, ?_⟩
  replace hp := pg_arr2 hp 12 16 5 rfl rfl (Or.inr rfl) (Or.inr ⟨16, rfl⟩)
  refine ⟨hp.2.1, by omega, ?_⟩
  replace hp := pg_ref hp 1 (a0 + 5)
  refine ⟨hp.2.1, ?_⟩
  replace hp := pg_int hp 5 16
  exact ⟨by decide, by decide, hq⟩
def S_X1 (S : gw_S) (a0 : Nat) : gw_S := (gw_sr (S_X8 (gw_new (gw_sr (S_X8 (gw_new (gw_sr (S_X0 (gw_new S 0 0) (a0 + 1)) a0 0 (a0 + 1)) 8 0) (a0 + 7)) a0 1 (a0 + 7)) 8 0) (a0 + 11)) a0 2 (a0 + 11))
def M_X1 (μ : gw_M) (a0 : Nat) : gw_M := (gw_up (gw_up (gw_up (M_X8 (gw_row (M_X8 (gw_row (M_X0 (gw_row μ (a0 + 1) (fun _ => 0)) (a0 + 1)) (a0 + 7) (fun _ => 0)) (a0 + 7)) (a0 + 11) (fun _ => 0)) (a0 + 11)) a0 3 (-1)) a0 4 (-1)) a0 5 (-1))
theorem mk_X1 {a0 : Nat} {S : gw_S} {μ : gw_M} (hn : gw_nn S = a0) (hk : gw_kd S a0 = 1) (hr : ∀ j, gw_rf S a0 j = 0) (hm : ∀ j, μ a0 j = 0) (hl : gw_ln S a0 = 0) : gw_made S μ (S_X1 S a0) (M_X1 μ a0) 1 a0 := by
  have hp := pg_start [] [] hn hk hr hm hl
  have nf := gw_newf (μ := fun _ _ => 0) (c := 0) (a0 := a0) (m := 0) hp.1 1 rfl
  have hm1 := mk_X0 (S := (gw_new S 0 0)) (μ := (gw_row μ (a0 + 1) (fun _ => 0))) (a0 := a0 + 1) nf.1 nf.2.1 nf.2.2.1 (fun jj => by simp [gw_row]) nf.2.2.2.2
  replace hp := pg_sub2 hp 0 5 1 6 rfl rfl rfl hm1 (by decide +kernel) (by decide +kernel)
  replace hp := pg_ref hp 0 (a0 + 1)
  have nf := gw_newf (μ := fun _ _ => 0) (c := 8) (a0 := a0) (m := 6) hp.1 7 rfl
  have hm2 := mk_X8 (S := (gw_new (gw_sr (S_X0 (gw_new S 0 0) (a0 + 1)) a0 0 (a0 + 1)) 8 0)) (μ := (gw_row (M_X0 (gw_row μ (a0 + 1) (fun _ => 0)) (a0 + 1)) (a0 + 7) (fun _ => 0))) (a0 := a0 + 7) nf.1 nf.2.1 nf.2.2.1 (fun jj => by simp [gw_row]) nf.2.2.2.2
  replace hp := pg_sub2 hp 8 3 7 10 rfl rfl rfl hm2 (by decide +kernel) (by decide +kernel)
  replace hp := pg_ref hp 1 (a0 + 7)
  have nf := gw_newf (μ := fun _ _ => 0) (c := 8) (a0 := a0) (m := 10) hp.1 11 rfl
  have hm3 := mk_X8 (S := (gw_new (gw_sr (S_X8 (gw_new (gw_sr (S_X0 (gw_new S 0 0) (a0 + 1)) a0 0 (a0 + 1)) 8 0) (a0 + 7)) a0 1 (a0 + 7)) 8 0)) (μ := (gw_row (M_X8 (gw_row (M_X0 (gw_row μ (a0 + 1) (fun _ => 0)) (a0 + 1)) (a0 + 7) (fun _ => 0)) (a0 + 7)) (a0 + 11) (fun _ => 0))) (a0 := a0 + 11) nf.1 nf.2.1 nf.2.2.1 (fun jj => by simp [gw_row]) nf.2.2.2.2
  replace hp := pg_sub2 hp 8 3 11 14 rfl rfl rfl hm3 (by decide +kernel) (by decide +kernel)
  replace hp := pg_ref hp 2 (a0 + 11)
  replace hp := pg_int hp 3 (-1)
  replace hp := pg_int hp 4 (-1)
  replace hp := pg_int hp 5 (-1)
  refine pg_end hp rfl rfl rfl rfl ?_ ?_ ?_ ?_
  · intro r hr
    simp only [List.mem_cons, List.not_mem_nil, or_false] at hr
    rcases hr with rfl | rfl | rfl <;> rfl
  · intro j v hv
    match j, hv with
    | 0, hv => obtain rfl := Option.some.inj hv; rfl
    | 1, hv => obtain rfl := Option.some.inj hv; rfl
    | 2, hv => obtain rfl := Option.some.inj hv; rfl
    | 3, hv => obtain rfl := Option.some.inj hv; rfl
    | 4, hv => obtain rfl := Option.some.inj hv; rfl
    | 5, hv => obtain rfl := Option.some.inj hv; rfl
    | n + 6, hv => simp at hv
  · exact fun k hk => by cases hk
  · exact fun k hk => by cases hk
set_option maxRecDepth 20000 in
theorem ctor_X1 {l : Launch} {x : gw_C} {d a0 : Nat} {S : gw_S} {μ : gw_M} {Q : Option Value → gw_S → gw_M → Prop} (hn : gw_nn S = a0) (hk : gw_kd S a0 = 1) (hr : ∀ j, gw_rf S a0 j = 0) (hm : ∀ j, μ a0 j = 0) (hl : gw_ln S a0 = 0) (h1 : ¬ a0 = 0) (hq : Q none (S_X1 S a0) (M_X1 μ a0)) : gw_ok l x (d + 4) sgX1_init 14 204 [.ref a0] S μ Q := by
  refine gw_ok_of stX1_init (lv0 := [.ref a0]) (Nat.le_of_ble_eq_true rfl) rfl rfl ?_
  intro K hK
  have hp := pg_start [] [] hn hk hr hm hl
  refine hK _ _ _ _ _ _ _ ?_
  rw [fdX1_init_0]
  simp only [bkX1_init_0, hn, gt_nil, gt_aload_n, gt_rfk, gw_nth, gw_set, gt_new, gt_newa, gt_anewa, gt_obj, gt_sp0, gt_sp1, gt_put_r, gt_put_i, gt_dup_i, gt_dup_r, gt_iconst, gt_bipush, gt_istore_n, gt_iastore, gt_get_r, gt_s2_0, gt_vret, nn_new, nn_sr, Nat.add_assoc, Nat.reduceAdd, Option.toList, List.cons_append, List.nil_append, Nat.add_zero, Nat.zero_add, (show Int32.toNatClampNeg 0 = 0 from rfl), (show Int32.toNatClampNeg 1 = 1 from rfl)]
  refine ⟨h1, ?_⟩
  refine ⟨by decide, by decide, ?_⟩
  have nf := gw_newf (μ := fun _ _ => 0) (c := 0) (a0 := a0) (m := 0) hp.1 1 rfl
  have hm1 := mk_X0 (S := (gw_new S 0 0)) (μ := (gw_row μ (a0 + 1) (fun _ => 0))) (a0 := a0 + 1) nf.1 nf.2.1 nf.2.2.1 (fun jj => by simp [gw_row]) nf.2.2.2.2
  refine ⟨by omega, rfl, 5, 93, by decide, by decide, ctor_X0 nf.1 nf.2.1 nf.2.2.1 (fun jj => by simp [gw_row]) nf.2.2.2.2 (by omega) ?_⟩
  replace hp := pg_sub2 hp 0 5 1 6 rfl rfl rfl hm1 (by decide +kernel) (by decide +kernel)
  replace hn := hp.1
  simp only [hn, gt_nil, gt_aload_n, gt_rfk, gw_nth, gw_set, gt_new, gt_newa, gt_anewa, gt_obj, gt_sp0, gt_sp1, gt_put_r, gt_put_i, gt_dup_i, gt_dup_r, gt_iconst, gt_bipush, gt_istore_n, gt_iastore, gt_get_r, gt_s2_0, gt_vret, nn_new, nn_sr, Nat.add_assoc, Nat.reduceAdd, Option.toList, List.cons_append, List.nil_append, Nat.add_zero, Nat.zero_add, (show Int32.toNatClampNeg 0 = 0 from rfl), (show Int32.toNatClampNeg 1 = 1 from rfl)]
  refine ⟨hp.2.1, by omega, ?_⟩
  replace hp := pg_ref hp 0 (a0 + 1)
  refine ⟨by decide, by decide, ?_⟩
  have nf := gw_newf (μ := fun _ _ => 0) (c := 8) (a0 := a0) (m := 6) hp.1 7 rfl
  have hm2 := mk_X8 (S := (gw_new (gw_sr (S_X0 (gw_new S 0 0) (a0 + 1)) a0 0 (a0 + 1)) 8 0)) (μ := (gw_row (M_X0 (gw_row μ (a0 + 1) (fun _ => 0)) (a0 + 1)) (a0 + 7) (fun _ => 0))) (a0 := a0 + 7) nf.1 nf.2.1 nf.2.2.1 (fun jj => by simp [gw_row]) nf.2.2.2.2
  refine ⟨by omega, rfl, 3, 48, by decide, by decide, ctor_X8 nf.1 nf.2.1 nf.2.2.1 (fun jj => by simp [gw_row]) nf.2.2.2.2 (by omega) ?_⟩
  replace hp := pg_sub2 hp 8 3 7 10 rfl rfl rfl hm2 (by decide +kernel) (by decide +kernel)
  replace hn := hp.1
  simp only [hn, gt_nil, gt_aload_n, gt_rfk, gw_nth, gw_set, gt_new, gt_newa, gt_anewa, gt_obj, gt_sp0, gt_sp1, gt_put_r, gt_put_i, gt_dup_i, gt_dup_r, gt_iconst, gt_bipush, gt_istore_n, gt_iastore, gt_get_r, gt_s2_0, gt_vret, nn_new, nn_sr, Nat.add_assoc, Nat.reduceAdd, Option.toList, List.cons_append, List.nil_append, Nat.add_zero, Nat.zero_add, (show Int32.toNatClampNeg 0 = 0 from rfl), (show Int32.toNatClampNeg 1 = 1 from rfl)]
  refine ⟨hp.2.1, by omega, ?_⟩
  replace hp := pg_ref hp 1 (a0 + 7)
  refine ⟨by decide, by decide, ?_⟩
  have nf := gw_newf (μ := fun _ _ => 0) (c := 8) (a0 := a0) (m := 10) hp.1 11 rfl
  have hm3 := mk_X8 (S := (gw_new (gw_sr (S_X8 (gw_new (gw_sr (S_X0 (gw_new S 0 0) (a0 + 1)) a0 0 (a0 + 1)) 8 0) (a0 + 7)) a0 1 (a0 + 7)) 8 0)) (μ := (gw_row (M_X8 (gw_row (M_X0 (gw_row μ (a0 + 1) (fun _ => 0)) (a0 + 1)) (a0 + 7) (fun _ => 0)) (a0 + 7)) (a0 + 11) (fun _ => 0))) (a0 := a0 + 11) nf.1 nf.2.1 nf.2.2.1 (fun jj => by simp [gw_row]) nf.2.2.2.2
  refine ⟨by omega, rfl, 3, 48, by decide, by decide, ctor_X8 nf.1 nf.2.1 nf.2.2.1 (fun jj => by simp [gw_row]) nf.2.2.2.2 (by omega) ?_⟩
  replace hp := pg_sub2 hp 8 3 11 14 rfl rfl rfl hm3 (by decide +kernel) (by decide +kernel)
  replace hn := hp.1
  simp only [hn, gt_nil, gt_aload_n, gt_rfk, gw_nth, gw_set, gt_new, gt_newa, gt_anewa, gt_obj, gt_sp0, gt_sp1, gt_put_r, gt_put_i, gt_dup_i, gt_dup_r, gt_iconst, gt_bipush, gt_istore_n, gt_iastore, gt_get_r, gt_s2_0, gt_vret, nn_new, nn_sr, Nat.add_assoc, Nat.reduceAdd, Option.toList, List.cons_append, List.nil_append, Nat.add_zero, Nat.zero_add, (show Int32.toNatClampNeg 0 = 0 from rfl), (show Int32.toNatClampNeg 1 = 1 from rfl)]
  refine ⟨hp.2.1, by omega, ?_⟩
  replace hp := pg_ref hp 2 (a0 + 11)
  refine ⟨hp.2.1, ?_⟩
  replace hp := pg_int hp 3 (-1)
  refine ⟨hp.2.1, ?_⟩
  replace hp := pg_int hp 4 (-1)
  refine ⟨hp.2.1, ?_⟩
  replace hp := pg_int hp 5 (-1)
  exact ⟨by decide, by decide, hq⟩
def S_X9 (S : gw_S) (a0 : Nat) : gw_S := (gw_sr (gw_new (gw_sr (gw_new (gw_sr (gw_new S 12 12) a0 0 (a0 + 1)) 12 12) a0 1 (a0 + 2)) 12 12) a0 2 (a0 + 3))
def M_X9 (μ : gw_M) (a0 : Nat) : gw_M := (gw_row (gw_row (gw_row μ (a0 + 1) (fun _ => 0)) (a0 + 2) (fun _ => 0)) (a0 + 3) (fun _ => 0))
theorem mk_X9 {a0 : Nat} {S : gw_S} {μ : gw_M} (hn : gw_nn S = a0) (hk : gw_kd S a0 = 9) (hr : ∀ j, gw_rf S a0 j = 0) (hm : ∀ j, μ a0 j = 0) (hl : gw_ln S a0 = 0) : gw_made S μ (S_X9 S a0) (M_X9 μ a0) 9 a0 := by
  have hp := pg_start [] [] hn hk hr hm hl
  replace hp := pg_arr2 hp 12 12 1 rfl rfl (Or.inr rfl) (Or.inr ⟨12, rfl⟩)
  replace hp := pg_ref hp 0 (a0 + 1)
  replace hp := pg_arr2 hp 12 12 2 rfl rfl (Or.inr rfl) (Or.inr ⟨12, rfl⟩)
  replace hp := pg_ref hp 1 (a0 + 2)
  replace hp := pg_arr2 hp 12 12 3 rfl rfl (Or.inr rfl) (Or.inr ⟨12, rfl⟩)
  replace hp := pg_ref hp 2 (a0 + 3)
  refine pg_end hp rfl rfl rfl rfl ?_ ?_ ?_ ?_
  · intro r hr
    simp only [List.mem_cons, List.not_mem_nil, or_false] at hr
    rcases hr with rfl | rfl | rfl <;> rfl
  · intro j v hv
    match j, hv with
    | 0, hv => obtain rfl := Option.some.inj hv; rfl
    | 1, hv => obtain rfl := Option.some.inj hv; rfl
    | 2, hv => obtain rfl := Option.some.inj hv; rfl
    | 3, hv => obtain rfl := Option.some.inj hv; rfl
    | n + 4, hv => simp at hv
  · exact fun k hk => by cases hk
  · exact fun k hk => by cases hk
set_option maxRecDepth 20000 in
theorem ctor_X9 {l : Launch} {x : gw_C} {d a0 : Nat} {S : gw_S} {μ : gw_M} {Q : Option Value → gw_S → gw_M → Prop} (hn : gw_nn S = a0) (hk : gw_kd S a0 = 9) (hr : ∀ j, gw_rf S a0 j = 0) (hm : ∀ j, μ a0 j = 0) (hl : gw_ln S a0 = 0) (h1 : ¬ a0 = 0) (hq : Q none (S_X9 S a0) (M_X9 μ a0)) : gw_ok l x (d + 2) sgX9_init 3 36 [.ref a0] S μ Q := by
  refine gw_ok_of stX9_init (lv0 := [.ref a0]) (Nat.le_of_ble_eq_true rfl) rfl rfl ?_
  intro K hK
  have hp := pg_start [] [] hn hk hr hm hl
  refine hK _ _ _ _ _ _ _ ?_
  rw [fdX9_init_0]
  simp only [bkX9_init_0, hn, gt_nil, gt_aload_n, gt_rfk, gw_nth, gw_set, gt_new, gt_newa, gt_anewa, gt_obj, gt_sp0, gt_sp1, gt_put_r, gt_put_i, gt_dup_i, gt_dup_r, gt_iconst, gt_bipush, gt_istore_n, gt_iastore, gt_get_r, gt_s2_0, gt_vret, nn_new, nn_sr, Nat.add_assoc, Nat.reduceAdd, Option.toList, List.cons_append, List.nil_append, Nat.add_zero, Nat.zero_add, (show Int32.toNatClampNeg 0 = 0 from rfl), (show Int32.toNatClampNeg 1 = 1 from rfl), (show Int32.toNatClampNeg 12 = 12 from rfl)]
  refine ⟨h1, ?_⟩
  refine ⟨⟨by decide, by decide⟩, by decide, by decide, ?_⟩
  replace hp := pg_arr2 hp 12 12 1 rfl rfl (Or.inr rfl) (Or.inr ⟨12, rfl⟩)
  refine ⟨hp.2.1, by omega, ?_⟩
  replace hp := pg_ref hp 0 (a0 + 1)
  refine ⟨⟨by decide, by decide⟩, by decide, by decide, ?_⟩
  replace hp := pg_arr2 hp 12 12 2 rfl rfl (Or.inr rfl) (Or.inr ⟨12, rfl⟩)
  refine ⟨hp.2.1, by omega, ?_⟩
  replace hp := pg_ref hp 1 (a0 + 2)
  refine ⟨⟨by decide, by decide⟩, by decide, by decide, ?_⟩
  replace hp := pg_arr2 hp 12 12 3 rfl rfl (Or.inr rfl) (Or.inr ⟨12, rfl⟩)
  refine ⟨hp.2.1, by omega, ?_⟩
  replace hp := pg_ref hp 2 (a0 + 3)
  exact ⟨by decide, by decide, hq⟩
def S_X2 (S : gw_S) (a0 : Nat) : gw_S := (gw_sr (gw_new (gw_sr (gw_new (gw_sr (gw_new (gw_sr (gw_new (gw_sr (gw_new (gw_sr (gw_new (gw_sr (gw_new (gw_sr (gw_new (gw_sr (gw_new (gw_sr (gw_new (gw_sr (gw_new S 12 24) a0 0 (a0 + 1)) 12 24) a0 1 (a0 + 2)) 12 24) a0 2 (a0 + 3)) 12 24) a0 3 (a0 + 4)) 12 2) a0 4 (a0 + 5)) 12 24) a0 7 (a0 + 6)) 12 24) a0 10 (a0 + 7)) 12 4) a0 11 (a0 + 8)) 12 2) a0 12 (a0 + 9)) 12 2) a0 13 (a0 + 10)) 12 2) a0 14 (a0 + 11))
def M_X2 (μ : gw_M) (a0 : Nat) : gw_M := (gw_up (gw_up (gw_row (gw_up (gw_up (gw_row (gw_row (gw_row (gw_row (gw_row (gw_up (gw_up (gw_row (gw_row (gw_row (gw_row (gw_row μ (a0 + 1) (fun _ => 0)) (a0 + 2) (fun _ => 0)) (a0 + 3) (fun _ => 0)) (a0 + 4) (fun _ => 0)) (a0 + 5) (fun _ => 0)) a0 5 (-1)) a0 6 (-1)) (a0 + 6) (fun _ => 0)) (a0 + 7) (fun _ => 0)) (a0 + 8) (fun _ => 0)) (a0 + 9) (fun _ => 0)) (a0 + 10) (fun _ => 0)) (a0 + 10) 0 (-1)) (a0 + 10) 1 (-1)) (a0 + 11) (fun _ => 0)) (a0 + 11) 0 (-1)) (a0 + 11) 1 (-1))
theorem mk_X2 {a0 : Nat} {S : gw_S} {μ : gw_M} (hn : gw_nn S = a0) (hk : gw_kd S a0 = 2) (hr : ∀ j, gw_rf S a0 j = 0) (hm : ∀ j, μ a0 j = 0) (hl : gw_ln S a0 = 0) : gw_made S μ (S_X2 S a0) (M_X2 μ a0) 2 a0 := by
  have hp := pg_start [] [10, 11] hn hk hr hm hl
  replace hp := pg_arr2 hp 12 24 1 rfl rfl (Or.inr rfl) (Or.inr ⟨24, rfl⟩)
  replace hp := pg_ref hp 0 (a0 + 1)
  replace hp := pg_arr2 hp 12 24 2 rfl rfl (Or.inr rfl) (Or.inr ⟨24, rfl⟩)
  replace hp := pg_ref hp 1 (a0 + 2)
  replace hp := pg_arr2 hp 12 24 3 rfl rfl (Or.inr rfl) (Or.inr ⟨24, rfl⟩)
  replace hp := pg_ref hp 2 (a0 + 3)
  replace hp := pg_arr2 hp 12 24 4 rfl rfl (Or.inr rfl) (Or.inr ⟨24, rfl⟩)
  replace hp := pg_ref hp 3 (a0 + 4)
  replace hp := pg_arr2 hp 12 2 5 rfl rfl (Or.inr rfl) (Or.inr ⟨2, rfl⟩)
  replace hp := pg_ref hp 4 (a0 + 5)
  replace hp := pg_int hp 5 (-1)
  replace hp := pg_int hp 6 (-1)
  replace hp := pg_arr2 hp 12 24 6 rfl rfl (Or.inr rfl) (Or.inr ⟨24, rfl⟩)
  replace hp := pg_ref hp 7 (a0 + 6)
  replace hp := pg_arr2 hp 12 24 7 rfl rfl (Or.inr rfl) (Or.inr ⟨24, rfl⟩)
  replace hp := pg_ref hp 10 (a0 + 7)
  replace hp := pg_arr2 hp 12 4 8 rfl rfl (Or.inr rfl) (Or.inr ⟨4, rfl⟩)
  replace hp := pg_ref hp 11 (a0 + 8)
  replace hp := pg_arr2 hp 12 2 9 rfl rfl (Or.inr rfl) (Or.inr ⟨2, rfl⟩)
  replace hp := pg_ref hp 12 (a0 + 9)
  replace hp := pg_arr2 hp 12 2 10 rfl rfl (Or.inr rfl) (Or.inl (by decide))
  replace hp := pg_ex hp (μ' := gw_up _ (a0 + 10) 0 (-1)) 10 (by decide) (by decide) (fun b hb jj => gw_up_ne hb jj)
  replace hp := pg_ex hp (μ' := gw_up _ (a0 + 10) 1 (-1)) 10 (by decide) (by decide) (fun b hb jj => gw_up_ne hb jj)
  replace hp := pg_ref hp 13 (a0 + 10)
  replace hp := pg_arr2 hp 12 2 11 rfl rfl (Or.inr rfl) (Or.inl (by decide))
  replace hp := pg_ex hp (μ' := gw_up _ (a0 + 11) 0 (-1)) 11 (by decide) (by decide) (fun b hb jj => gw_up_ne hb jj)
  replace hp := pg_ex hp (μ' := gw_up _ (a0 + 11) 1 (-1)) 11 (by decide) (by decide) (fun b hb jj => gw_up_ne hb jj)
  replace hp := pg_ref hp 14 (a0 + 11)
  refine pg_end hp rfl rfl rfl rfl ?_ ?_ ?_ ?_
  · intro r hr
    simp only [List.mem_cons, List.not_mem_nil, or_false] at hr
    rcases hr with rfl | rfl | rfl | rfl | rfl | rfl | rfl | rfl | rfl | rfl | rfl <;> rfl
  · intro j v hv
    match j, hv with
    | 0, hv => obtain rfl := Option.some.inj hv; rfl
    | 1, hv => obtain rfl := Option.some.inj hv; rfl
    | 2, hv => obtain rfl := Option.some.inj hv; rfl
    | 3, hv => obtain rfl := Option.some.inj hv; rfl
    | 4, hv => obtain rfl := Option.some.inj hv; rfl
    | 5, hv => obtain rfl := Option.some.inj hv; rfl
    | 6, hv => obtain rfl := Option.some.inj hv; rfl
    | 7, hv => obtain rfl := Option.some.inj hv; rfl
    | 8, hv => obtain rfl := Option.some.inj hv; rfl
    | 9, hv => obtain rfl := Option.some.inj hv; rfl
    | 10, hv => obtain rfl := Option.some.inj hv; rfl
    | 11, hv => obtain rfl := Option.some.inj hv; rfl
    | 12, hv => obtain rfl := Option.some.inj hv; rfl
    | 13, hv => obtain rfl := Option.some.inj hv; rfl
    | 14, hv => obtain rfl := Option.some.inj hv; rfl
    | n + 15, hv => simp at hv
  · exact fun k hk => by cases hk
  · intro k hk row hrow j v hv
    simp only [List.mem_cons, List.not_mem_nil, or_false] at hk
    rcases hk with rfl | rfl
    · obtain rfl := Option.some.inj hrow
      match j, hv with
      | 0, hv => obtain rfl := Option.some.inj hv; simp [M_X2, gw_up, gw_row]
      | 1, hv => obtain rfl := Option.some.inj hv; simp [M_X2, gw_up, gw_row]
      | n + 2, hv => simp at hv
    · obtain rfl := Option.some.inj hrow
      match j, hv with
      | 0, hv => obtain rfl := Option.some.inj hv; simp [M_X2, gw_up, gw_row]
      | 1, hv => obtain rfl := Option.some.inj hv; simp [M_X2, gw_up, gw_row]
      | n + 2, hv => simp at hv
set_option maxRecDepth 20000 in
theorem ctor_X2 {l : Launch} {x : gw_C} {d a0 : Nat} {S : gw_S} {μ : gw_M} {Q : Option Value → gw_S → gw_M → Prop} (hn : gw_nn S = a0) (hk : gw_kd S a0 = 2) (hr : ∀ j, gw_rf S a0 j = 0) (hm : ∀ j, μ a0 j = 0) (hl : gw_ln S a0 = 0) (h1 : ¬ a0 = 0) (hq : Q none (S_X2 S a0) (M_X2 μ a0)) : gw_ok l x (d + 2) sgX2_init 11 156 [.ref a0] S μ Q := by
  refine gw_ok_of stX2_init (lv0 := [.ref a0]) (Nat.le_of_ble_eq_true rfl) rfl rfl ?_
  intro K hK
  have hp := pg_start [] [10, 11] hn hk hr hm hl
  refine hK _ _ _ _ _ _ _ ?_
  rw [fdX2_init_0]
  simp only [bkX2_init_0, hn, gt_nil, gt_aload_n, gt_rfk, gw_nth, gw_set, gt_new, gt_newa, gt_anewa, gt_obj, gt_sp0, gt_sp1, gt_put_r, gt_put_i, gt_dup_i, gt_dup_r, gt_iconst, gt_bipush, gt_istore_n, gt_iastore, gt_get_r, gt_s2_0, gt_vret, nn_new, nn_sr, Nat.add_assoc, Nat.reduceAdd, Option.toList, List.cons_append, List.nil_append, Nat.add_zero, Nat.zero_add, (show Int32.toNatClampNeg 0 = 0 from rfl), (show Int32.toNatClampNeg 1 = 1 from rfl), (show Int32.toNatClampNeg 2 = 2 from rfl), (show Int32.toNatClampNeg 4 = 4 from rfl), (show Int32.toNatClampNeg 24 = 24 from rfl)]
  refine ⟨h1, ?_⟩
  refine ⟨⟨by decide, by decide⟩, by decide, by decide, ?_⟩
  replace hp := pg_arr2 hp 12 24 1 rfl rfl (Or.inr rfl) (Or.inr ⟨24, rfl⟩)
  refine ⟨hp.2.1, by omega, ?_⟩
  replace hp := pg_ref hp 0 (a0 + 1)
  refine ⟨⟨by decide, by decide⟩, by decide, by decide, ?_⟩
  replace hp := pg_arr2 hp 12 24 2 rfl rfl (Or.inr rfl) (Or.inr ⟨24, rfl⟩)
  refine ⟨hp.2.1, by omega, ?_⟩
  replace hp := pg_ref hp 1 (a0 + 2)
  refine ⟨⟨by decide, by decide⟩, by decide, by decide, ?_⟩
  replace hp := pg_arr2 hp 12 24 3 rfl rfl (Or.inr rfl) (Or.inr ⟨24, rfl⟩)
  refine ⟨hp.2.1, by omega, ?_⟩
  replace hp := pg_ref hp 2 (a0 + 3)
  refine ⟨⟨by decide, by decide⟩, by decide, by decide, ?_⟩
  replace hp := pg_arr2 hp 12 24 4 rfl rfl (Or.inr rfl) (Or.inr ⟨24, rfl⟩)
  refine ⟨hp.2.1, by omega, ?_⟩
  replace hp := pg_ref hp 3 (a0 + 4)
  refine ⟨⟨by decide, by decide⟩, by decide, by decide, ?_⟩
  replace hp := pg_arr2 hp 12 2 5 rfl rfl (Or.inr rfl) (Or.inr ⟨2, rfl⟩)
  refine ⟨hp.2.1, by omega, ?_⟩
  replace hp := pg_ref hp 4 (a0 + 5)
  refine ⟨hp.2.1, ?_⟩
  replace hp := pg_int hp 5 (-1)
  refine ⟨hp.2.1, ?_⟩
  replace hp := pg_int hp 6 (-1)
  refine ⟨⟨by decide, by decide⟩, by decide, by decide, ?_⟩
  replace hp := pg_arr2 hp 12 24 6 rfl rfl (Or.inr rfl) (Or.inr ⟨24, rfl⟩)
  refine ⟨hp.2.1, by omega, ?_⟩
  replace hp := pg_ref hp 7 (a0 + 6)
  refine ⟨⟨by decide, by decide⟩, by decide, by decide, ?_⟩
  replace hp := pg_arr2 hp 12 24 7 rfl rfl (Or.inr rfl) (Or.inr ⟨24, rfl⟩)
  refine ⟨hp.2.1, by omega, ?_⟩
  replace hp := pg_ref hp 10 (a0 + 7)
  refine ⟨⟨by decide, by decide⟩, by decide, by decide, ?_⟩
  replace hp := pg_arr2 hp 12 4 8 rfl rfl (Or.inr rfl) (Or.inr ⟨4, rfl⟩)
  refine ⟨hp.2.1, by omega, ?_⟩
  replace hp := pg_ref hp 11 (a0 + 8)
  refine ⟨⟨by decide, by decide⟩, by decide, by decide, ?_⟩
  replace hp := pg_arr2 hp 12 2 9 rfl rfl (Or.inr rfl) (Or.inr ⟨2, rfl⟩)
  refine ⟨hp.2.1, by omega, ?_⟩
  replace hp := pg_ref hp 12 (a0 + 9)
  refine ⟨⟨by decide, by decide⟩, by decide, by decide, ?_⟩
  replace hp := pg_arr2 hp 12 2 10 rfl rfl (Or.inr rfl) (Or.inl (by decide))
  refine ⟨(pg_kd hp 10 rfl (by decide) (by decide)).1, by rw [(pg_kd hp 10 rfl (by decide) (by decide)).2]; exact ⟨by decide, by decide⟩, ?_⟩
  replace hp := pg_ex hp (μ' := gw_up _ (a0 + 10) 0 (-1)) 10 (by decide) (by decide) (fun b hb jj => gw_up_ne hb jj)
  refine ⟨(pg_kd hp 10 rfl (by decide) (by decide)).1, by rw [(pg_kd hp 10 rfl (by decide) (by decide)).2]; exact ⟨by decide, by decide⟩, ?_⟩
  replace hp := pg_ex hp (μ' := gw_up _ (a0 + 10) 1 (-1)) 10 (by decide) (by decide) (fun b hb jj => gw_up_ne hb jj)
  refine ⟨hp.2.1, by omega, ?_⟩
  replace hp := pg_ref hp 13 (a0 + 10)
  refine ⟨⟨by decide, by decide⟩, by decide, by decide, ?_⟩
  replace hp := pg_arr2 hp 12 2 11 rfl rfl (Or.inr rfl) (Or.inl (by decide))
  refine ⟨(pg_kd hp 11 rfl (by decide) (by decide)).1, by rw [(pg_kd hp 11 rfl (by decide) (by decide)).2]; exact ⟨by decide, by decide⟩, ?_⟩
  replace hp := pg_ex hp (μ' := gw_up _ (a0 + 11) 0 (-1)) 11 (by decide) (by decide) (fun b hb jj => gw_up_ne hb jj)
  refine ⟨(pg_kd hp 11 rfl (by decide) (by decide)).1, by rw [(pg_kd hp 11 rfl (by decide) (by decide)).2]; exact ⟨by decide, by decide⟩, ?_⟩
  replace hp := pg_ex hp (μ' := gw_up _ (a0 + 11) 1 (-1)) 11 (by decide) (by decide) (fun b hb jj => gw_up_ne hb jj)
  refine ⟨hp.2.1, by omega, ?_⟩
  replace hp := pg_ref hp 14 (a0 + 11)
  exact ⟨by decide, by decide, hq⟩
def S_X4 (S : gw_S) (a0 : Nat) : gw_S := (gw_sr (gw_new (gw_sr (gw_new (gw_sr (S_X8 (gw_new S 8 0) (a0 + 1)) a0 0 (a0 + 1)) 12 10) a0 1 (a0 + 5)) 12 16) a0 2 (a0 + 6))
def M_X4 (μ : gw_M) (a0 : Nat) : gw_M := (gw_fil (gw_lp (gw_row (gw_row (M_X8 (gw_row μ (a0 + 1) (fun _ => 0)) (a0 + 1)) (a0 + 5) (fun _ => 0)) (a0 + 6) (fun _ => 0)) (a0 + 5) 10) (a0 + 6) 16 (-1))
theorem mk_X4 {a0 : Nat} {S : gw_S} {μ : gw_M} (hn : gw_nn S = a0) (hk : gw_kd S a0 = 4) (hr : ∀ j, gw_rf S a0 j = 0) (hm : ∀ j, μ a0 j = 0) (hl : gw_ln S a0 = 0) : gw_made S μ (S_X4 S a0) (M_X4 μ a0) 4 a0 := by
  have hp := pg_start [] [5, 6] hn hk hr hm hl
  have nf := gw_newf (μ := fun _ _ => 0) (c := 8) (a0 := a0) (m := 0) hp.1 1 rfl
  have hm1 := mk_X8 (S := (gw_new S 8 0)) (μ := (gw_row μ (a0 + 1) (fun _ => 0))) (a0 := a0 + 1) nf.1 nf.2.1 nf.2.2.1 (fun jj => by simp [gw_row]) nf.2.2.2.2
  replace hp := pg_sub2 hp 8 3 1 4 rfl rfl rfl hm1 (by decide +kernel) (by decide +kernel)
  replace hp := pg_ref hp 0 (a0 + 1)
  replace hp := pg_arr2 hp 12 10 5 rfl rfl (Or.inr rfl) (Or.inl (by decide))
  replace hp := pg_ref hp 1 (a0 + 5)
  replace hp := pg_arr2 hp 12 16 6 rfl rfl (Or.inr rfl) (Or.inl (by decide))
  replace hp := pg_ref hp 2 (a0 + 6)
  replace hp := pg_ex hp (μ' := gw_lp _ (a0 + 5) 10) 5 (by decide) (by decide) (fun b hb jj => gw_lp_ne hb jj 10)
  replace hp := pg_fil hp 6 16 (-1) (by decide) (by decide)
  refine pg_end hp rfl rfl rfl rfl ?_ ?_ ?_ ?_
  · intro r hr
    simp only [List.mem_cons, List.not_mem_nil, or_false] at hr
    rcases hr with rfl | rfl | rfl <;> rfl
  · intro j v hv
    match j, hv with
    | 0, hv => obtain rfl := Option.some.inj hv; rfl
    | 1, hv => obtain rfl := Option.some.inj hv; rfl
    | 2, hv => obtain rfl := Option.some.inj hv; rfl
    | 3, hv => obtain rfl := Option.some.inj hv; rfl
    | 4, hv => obtain rfl := Option.some.inj hv; rfl
    | 5, hv => obtain rfl := Option.some.inj hv; rfl
    | n + 6, hv => simp at hv
  · exact fun k hk => by cases hk
  · intro k hk
    simp only [List.mem_cons, List.not_mem_nil, or_false] at hk
    rcases hk with rfl | rfl
    · intro row hrow j v hv9
      obtain rfl := Option.some.inj hrow
      match j, hv9 with
      | 0, hv9 => obtain rfl := Option.some.inj hv9; simp [M_X4, gw_fil, gw_lp, gw_up, nI]
      | 1, hv9 => obtain rfl := Option.some.inj hv9; simp [M_X4, gw_fil, gw_lp, gw_up, nI]
      | 2, hv9 => obtain rfl := Option.some.inj hv9; simp [M_X4, gw_fil, gw_lp, gw_up, nI]
      | 3, hv9 => obtain rfl := Option.some.inj hv9; simp [M_X4, gw_fil, gw_lp, gw_up, nI]
      | 4, hv9 => obtain rfl := Option.some.inj hv9; simp [M_X4, gw_fil, gw_lp, gw_up, nI]
      | 5, hv9 => obtain rfl := Option.some.inj hv9; simp [M_X4, gw_fil, gw_lp, gw_up, nI]
      | 6, hv9 => obtain rfl := Option.some.inj hv9; simp [M_X4, gw_fil, gw_lp, gw_up, nI]
      | 7, hv9 => obtain rfl := Option.some.inj hv9; simp [M_X4, gw_fil, gw_lp, gw_up, nI]
      | 8, hv9 => obtain rfl := Option.some.inj hv9; simp [M_X4, gw_fil, gw_lp, gw_up, nI]
      | 9, hv9 => obtain rfl := Option.some.inj hv9; simp [M_X4, gw_fil, gw_lp, gw_up, nI]
      | n + 10, hv9 => simp at hv9
    · exact gw_k3_fil rfl
set_option maxRecDepth 20000 in
theorem ctor_X4 {l : Launch} {x : gw_C} {d a0 : Nat} {S : gw_S} {μ : gw_M} {Q : Option Value → gw_S → gw_M → Prop} (hn : gw_nn S = a0) (hk : gw_kd S a0 = 4) (hr : ∀ j, gw_rf S a0 j = 0) (hm : ∀ j, μ a0 j = 0) (hl : gw_ln S a0 = 0) (h1 : ¬ a0 = 0) (hq : Q none (S_X4 S a0) (M_X4 μ a0)) : gw_ok l x (d + 3) sgX4_init 6 78 [.ref a0] S μ Q := by
  refine gw_ok_of stX4_init (lv0 := [.ref a0, .retAddr 0]) (Nat.le_of_ble_eq_true rfl) rfl rfl ?_
  intro K hK
  have hp := pg_start [] [5, 6] hn hk hr hm hl
  refine hK _ _ _ _ _ _ _ ?_
  rw [fdX4_init_0]
  simp only [bkX4_init_0, hn, gt_nil, gt_aload_n, gt_rfk, gw_nth, gw_set, gt_new, gt_newa, gt_anewa, gt_obj, gt_sp0, gt_sp1, gt_put_r, gt_put_i, gt_dup_i, gt_dup_r, gt_iconst, gt_bipush, gt_istore_n, gt_iastore, gt_get_r, gt_s2_0, gt_vret, nn_new, nn_sr, Nat.add_assoc, Nat.reduceAdd, Option.toList, List.cons_append, List.nil_append, Nat.add_zero, Nat.zero_add, (show Int32.toNatClampNeg 0 = 0 from rfl), (show Int32.toNatClampNeg 1 = 1 from rfl), (show Int32.toNatClampNeg 10 = 10 from rfl), (show Int32.toNatClampNeg 16 = 16 from rfl)]
  refine ⟨h1, ?_⟩
  refine ⟨by decide, by decide, ?_⟩
  have nf := gw_newf (μ := fun _ _ => 0) (c := 8) (a0 := a0) (m := 0) hp.1 1 rfl
  have hm1 := mk_X8 (S := (gw_new S 8 0)) (μ := (gw_row μ (a0 + 1) (fun _ => 0))) (a0 := a0 + 1) nf.1 nf.2.1 nf.2.2.1 (fun jj => by simp [gw_row]) nf.2.2.2.2
  refine ⟨by omega, rfl, 3, 48, by decide, by decide, ctor_X8 nf.1 nf.2.1 nf.2.2.1 (fun jj => by simp [gw_row]) nf.2.2.2.2 (by omega) ?_⟩
  replace hp := pg_sub2 hp 8 3 1 4 rfl rfl rfl hm1 (by decide +kernel) (by decide +kernel)
  replace hn := hp.1
  simp only [hn, gt_nil, gt_aload_n, gt_rfk, gw_nth, gw_set, gt_new, gt_newa, gt_anewa, gt_obj, gt_sp0, gt_sp1, gt_put_r, gt_put_i, gt_dup_i, gt_dup_r, gt_iconst, gt_bipush, gt_istore_n, gt_iastore, gt_get_r, gt_s2_0, gt_vret, nn_new, nn_sr, Nat.add_assoc, Nat.reduceAdd, Option.toList, List.cons_append, List.nil_append, Nat.add_zero, Nat.zero_add, (show Int32.toNatClampNeg 0 = 0 from rfl), (show Int32.toNatClampNeg 1 = 1 from rfl), (show Int32.toNatClampNeg 10 = 10 from rfl), (show Int32.toNatClampNeg 16 = 16 from rfl)]
  refine ⟨hp.2.1, by omega, ?_⟩
  replace hp := pg_ref hp 0 (a0 + 1)
  refine ⟨⟨by decide, by decide⟩, by decide, by decide, ?_⟩
  replace hp := pg_arr2 hp 12 10 5 rfl rfl (Or.inr rfl) (Or.inl (by decide))
  refine ⟨hp.2.1, by omega, ?_⟩
  replace hp := pg_ref hp 1 (a0 + 5)
  refine ⟨⟨by decide, by decide⟩, by decide, by decide, ?_⟩
  replace hp := pg_arr2 hp 12 16 6 rfl rfl (Or.inr rfl) (Or.inl (by decide))
  refine ⟨hp.2.1, by omega, ?_⟩
  replace hp := pg_ref hp 2 (a0 + 6)
  have hg : gw_rf _ a0 1 = a0 + 5 := hp.2.2.1 1
  have hg2 : gw_rf _ a0 2 = a0 + 6 := hp.2.2.1 2
  have hk0 := hp.2.1
  have hv : gw_kd _ (a0 + 5) = 12 ∧ gw_ln _ (a0 + 5) = 10 := pg_kd hp 5 rfl (by decide) (by decide)
  have hs : gw_kd _ (a0 + 6) = 12 ∧ gw_ln _ (a0 + 6) = 16 := pg_kd hp 6 rfl (by decide) (by decide)
  have loop : ∀ (n k : Nat), k + n = 10 → K 33 [.ref a0, .int (nI k)] [] (gw_sr (gw_new (gw_sr (gw_new (gw_sr (S_X8 (gw_new S 8 0) (a0 + 1)) a0 0 (a0 + 1)) 12 10) a0 1 (a0 + 5)) 12 16) a0 2 (a0 + 6)) (gw_lp (gw_row (gw_row (M_X8 (gw_row μ (a0 + 1) (fun _ => 0)) (a0 + 1)) (a0 + 5) (fun _ => 0)) (a0 + 6) (fun _ => 0)) (a0 + 5) k) 6 78 := by
    intro n
    induction n with
    | zero =>
      intro k hkn
      refine hK _ _ _ _ _ _ _ ?_
      rw [fdX4_init_33]
      simp only [gt_nil, gt_iload_n, gt_ink, gw_nth, gt_bipush, gt_icmp, bkX4_init_33]
      have hk10 : k = 10 := by omega
      subst hk10
      refine ⟨fun _ => ?_, fun c => absurd (show (10 : Int32) ≤ nI 10 from by decide) c⟩
      refine hK _ _ _ _ _ _ _ ?_
      rw [fdX4_init_55]
      simp only [gt_nil, gt_aload_n, gt_rfk, gw_nth, gt_get_r, gt_iconst, gt_s2_0, bkX4_init_55]
      rw [hg2]
      refine ⟨hk0, rfl, 0, 0, by decide, by decide, ?_⟩
      refine ok_J7_fill_53178 (N := 16) hs.1 hs.2 (by decide) ?_
      simp only [gt_vret, Option.toList, List.nil_append, Nat.add_zero]
      exact ⟨by decide, by decide, hq⟩
    | succ n ih =>
      intro k hkn
      refine hK _ _ _ _ _ _ _ ?_
      rw [fdX4_init_33]
      simp only [gt_nil, gt_iload_n, gt_ink, gt_aload_n, gt_rfk, gw_nth, gw_set, gt_bipush, gt_icmp, gt_get_r, gt_imul, gt_iastore, gt_iinc, gt_goto, bkX4_init_33]
      rw [hg]
      refine ⟨fun c => absurd (show nI 10 ≤ nI k from c) (nI_ge (by omega) (by omega)), fun _ => ?_⟩
      refine ⟨hk0, hv.1, by rw [hv.2]; exact gw_nI_in (by omega) (by decide), ?_⟩
      rw [nI_clamp (n := k) (by omega), nI_1]
      exact ih (k + 1) (by omega)
  exact loop 10 0 rfl
