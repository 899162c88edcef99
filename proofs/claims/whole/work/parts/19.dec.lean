def gw_b01 (v : Int32) : Prop := v = 0 ∨ v = 1
section STEPS3
variable {ok : gw_Ok} {x : gw_C} {mc ms : Nat} {Q : Option Value → gw_S → gw_M → Prop} {K : Nat → gw_Kt} {pc pc' n : Nat} {iv : List Int32} {sg : List gw_Sig} {es : List gw_E} {ls t : List Value} {S : gw_S} {μ : gw_M} {cc ss : Nat} {k ci ti j r : Nat} {v : Int32}
theorem gt_putz : gw_blk ok x mc ms Q K ((pc, n, .putfield j, [ci, k, 2, ti], iv, sg) :: es) pc' ls (.int v :: .ref r :: t) S μ cc ss = (gw_kd S r = ci ∧ gw_b01 v ∧ gw_blk ok x mc ms Q K es (pc + n) ls t S (gw_up μ r k v) cc ss) := rfl
theorem gt_retz : gw_blk ok x mc ms Q K ((pc, n, .ireturn, [1], iv, sg) :: es) pc' ls [.int v] S μ cc ss = (gw_b01 v ∧ cc ≤ mc ∧ ss ≤ ms ∧ Q (some (.int v)) S μ) := rfl
end STEPS3
abbrev gw_cl (l : Launch) (x : gw_C) (d : Nat) (bs : List (Nat × List gw_E)) (Q : Option Value → gw_S → gw_M → Prop) (K : Nat → gw_Kt) : Prop := ∀ pc lv st S μ cc ss, gw_blk (gw_ok l x d) x 0 0 Q K (gw_find bs pc) pc lv st S μ cc ss → K pc lv st S μ cc ss
theorem gt_tsw {ok : gw_Ok} {x : gw_C} {mc ms : Nat} {Q : Option Value → gw_S → gw_M → Prop} {K : Nat → gw_Kt} {pc pc' n dd : Nat} {ts : List Nat} {lo v : Int32} {sg : List gw_Sig} {es : List gw_E} {ls t : List Value} {S : gw_S} {μ : gw_M} {cc ss : Nat} {z1 z2 z3 : Int} {z4 : Array Int} : gw_blk ok x mc ms Q K ((pc, n, .tableswitch z1 z2 z3 z4, dd :: ts, [lo], sg) :: es) pc' ls (.int v :: t) S μ cc ss = gw_sw (fun k => K k ls t S μ cc ss) dd ts lo v := rfl

def F_X7_copyFrom (n0 : Nat) (a0 : Nat) (p1 : Nat) (μ : gw_M) : Option (gw_M) := gw_let (gw_cpy μ (p1 + 1) (a0 + 1) 0 0 24) (fun (μ_1 : gw_M) => gw_let (gw_cpy μ_1 (p1 + 2) (a0 + 2) 0 0 24) (fun (μ_2 : gw_M) => gw_let (gw_cpy μ_2 (p1 + 3) (a0 + 3) 0 0 24) (fun (μ_3 : gw_M) => gw_let (gw_up μ_3 a0 3 (μ_3 p1 3)) (fun (μ_4 : gw_M) => gw_let (gw_up μ_4 a0 4 (μ_4 p1 4)) (fun (μ_5 : gw_M) => some μ_5)))))
theorem ok_X7_copyFrom {l : Launch} {x : gw_C} {d : Nat} {S : gw_S} {Q : Option Value → gw_S → gw_M → Prop} {a0 p1 : Nat} {n0 : Nat} {μ : gw_M} {μ'} (hS0 : gw_sh S 7 a0) (hpp1 : gw_sh S 7 p1) (h : F_X7_copyFrom n0 a0 p1 μ = some μ') (hq : Q none S μ') : gw_ok l x (d + 1) sgX7_copyFrom 0 0 [.ref a0, .ref p1] S μ Q := by
  refine gw_ok_of stX7_copyFrom (lv0 := [.ref a0, .ref p1]) (Nat.le_of_ble_eq_true rfl) rfl rfl ?_
  intro K hK
  have ka0_0 : gw_kd S a0 = 7 := (hS0 0 _ rfl).1
  have ra0_0_0 : gw_rf S a0 0 = a0 + 1 := (hS0 0 _ rfl).2.2 (0, 1) (by decide)
  have ra0_0_1 : gw_rf S a0 1 = a0 + 2 := (hS0 0 _ rfl).2.2 (1, 2) (by decide)
  have ra0_0_2 : gw_rf S a0 2 = a0 + 3 := (hS0 0 _ rfl).2.2 (2, 3) (by decide)
  have ka0_1 : gw_kd S (a0 + 1) = 12 := (hS0 1 _ rfl).1
  have la0_1 : gw_ln S (a0 + 1) = 24 := (hS0 1 _ rfl).2.1
  have ka0_2 : gw_kd S (a0 + 2) = 12 := (hS0 2 _ rfl).1
  have la0_2 : gw_ln S (a0 + 2) = 24 := (hS0 2 _ rfl).2.1
  have ka0_3 : gw_kd S (a0 + 3) = 12 := (hS0 3 _ rfl).1
  have la0_3 : gw_ln S (a0 + 3) = 24 := (hS0 3 _ rfl).2.1
  have kp1_0 : gw_kd S p1 = 7 := (hpp1 0 _ rfl).1
  have rp1_0_0 : gw_rf S p1 0 = p1 + 1 := (hpp1 0 _ rfl).2.2 (0, 1) (by decide)
  have rp1_0_1 : gw_rf S p1 1 = p1 + 2 := (hpp1 0 _ rfl).2.2 (1, 2) (by decide)
  have rp1_0_2 : gw_rf S p1 2 = p1 + 3 := (hpp1 0 _ rfl).2.2 (2, 3) (by decide)
  have kp1_1 : gw_kd S (p1 + 1) = 12 := (hpp1 1 _ rfl).1
  have lp1_1 : gw_ln S (p1 + 1) = 24 := (hpp1 1 _ rfl).2.1
  have kp1_2 : gw_kd S (p1 + 2) = 12 := (hpp1 2 _ rfl).1
  have lp1_2 : gw_ln S (p1 + 2) = 24 := (hpp1 2 _ rfl).2.1
  have kp1_3 : gw_kd S (p1 + 3) = 12 := (hpp1 3 _ rfl).1
  have lp1_3 : gw_ln S (p1 + 3) = 24 := (hpp1 3 _ rfl).2.1
  unfold F_X7_copyFrom at h
  refine hK _ _ _ _ _ _ _ ?_
  rw [fdX7_copyFrom_0]
  simp only [gt_nil, true_and, eq_self, gt_aload_n, gt_rfk, gw_nth, gt_get_r, gt_get_i, gt_get_z, gt_iconst, gt_bipush, gt_s1_0, gt_s2_0, gt_s3_0, gt_s4_0, gt_s1_1, gt_s2_1, gt_s3_1, gt_s4_1, gt_acpy, gt_put_i, gt_putz, gt_vret, bkX7_copyFrom_0, ka0_0, ra0_0_0, ra0_0_1, ra0_0_2, ka0_1, la0_1, ka0_2, la0_2, ka0_3, la0_3, kp1_0, rp1_0_0, rp1_0_1, rp1_0_2, kp1_1, lp1_1, kp1_2, lp1_2, kp1_3, lp1_3, (show Int32.toNatClampNeg 0 = 0 from rfl), (show Int32.toNatClampNeg 24 = 24 from rfl)]
  refine ⟨by decide, by decide, by decide, by decide, by decide, ?_⟩
  obtain ⟨μ_1, hμ_1, h⟩ := gw_lt h
  try rw [← hμ_1]
  refine ⟨by decide, by decide, by decide, by decide, by decide, ?_⟩
  obtain ⟨μ_2, hμ_2, h⟩ := gw_lt h
  try rw [← hμ_2]
  refine ⟨by decide, by decide, by decide, by decide, by decide, ?_⟩
  obtain ⟨μ_3, hμ_3, h⟩ := gw_lt h
  try rw [← hμ_3]
  obtain ⟨μ_4, hμ_4, h⟩ := gw_lt h
  try rw [← hμ_4]
  obtain ⟨μ_5, hμ_5, h⟩ := gw_lt h
  try rw [← hμ_5]
  cases h
  exact ⟨Nat.le_refl _, Nat.le_refl _, hq⟩
def F_X0_copyFrom (n0 : Nat) (a0 : Nat) (p1 : Nat) (μ : gw_M) : Option (gw_M) := (F_X7_copyFrom n0 (a0 + 1) (p1 + 1) μ).bind (fun (μ_2 : gw_M) => gw_let (gw_cpy μ_2 (p1 + 5) (a0 + 5) 0 0 16) (fun (μ_5 : gw_M) => gw_let (gw_up μ_5 a0 2 (μ_5 p1 2)) (fun (μ_6 : gw_M) => gw_let (gw_up μ_6 a0 3 (μ_6 p1 3)) (fun (μ_7 : gw_M) => (if (μ_7 p1 4) = 0 ∨ (μ_7 p1 4) = 1 then gw_let (gw_up μ_7 a0 4 (μ_7 p1 4)) (fun (μ_9 : gw_M) => gw_let (gw_up μ_9 a0 5 (μ_9 p1 5)) (fun (μ_10 : gw_M) => gw_let (gw_up μ_10 a0 6 (μ_10 p1 6)) (fun (μ_11 : gw_M) => some μ_11))) else none)))))
theorem ok_X0_copyFrom {l : Launch} {x : gw_C} {d : Nat} {S : gw_S} {Q : Option Value → gw_S → gw_M → Prop} {a0 p1 : Nat} {n0 : Nat} {μ : gw_M} {μ'} (hS0 : gw_sh S 0 a0) (hpp1 : gw_sh S 0 p1) (h : F_X0_copyFrom n0 a0 p1 μ = some μ') (hq : Q none S μ') : gw_ok l x (d + 2) sgX0_copyFrom 0 0 [.ref a0, .ref p1] S μ Q := by
  refine gw_ok_of stX0_copyFrom (lv0 := [.ref a0, .ref p1]) (Nat.le_of_ble_eq_true rfl) rfl rfl ?_
  intro K hK
  have ka0_0 : gw_kd S a0 = 0 := (hS0 0 _ rfl).1
  have ra0_0_0 : gw_rf S a0 0 = a0 + 1 := (hS0 0 _ rfl).2.2 (0, 1) (by decide)
  have ra0_0_1 : gw_rf S a0 1 = a0 + 5 := (hS0 0 _ rfl).2.2 (1, 5) (by decide)
  have ka0_1 : gw_kd S (a0 + 1) = 7 := (hS0 1 _ rfl).1
  have ka0_5 : gw_kd S (a0 + 5) = 12 := (hS0 5 _ rfl).1
  have la0_5 : gw_ln S (a0 + 5) = 16 := (hS0 5 _ rfl).2.1
  have kp1_0 : gw_kd S p1 = 0 := (hpp1 0 _ rfl).1
  have rp1_0_0 : gw_rf S p1 0 = p1 + 1 := (hpp1 0 _ rfl).2.2 (0, 1) (by decide)
  have rp1_0_1 : gw_rf S p1 1 = p1 + 5 := (hpp1 0 _ rfl).2.2 (1, 5) (by decide)
  have kp1_1 : gw_kd S (p1 + 1) = 7 := (hpp1 1 _ rfl).1
  have kp1_5 : gw_kd S (p1 + 5) = 12 := (hpp1 5 _ rfl).1
  have lp1_5 : gw_ln S (p1 + 5) = 16 := (hpp1 5 _ rfl).2.1
  unfold F_X0_copyFrom at h
  refine hK _ _ _ _ _ _ _ ?_
  rw [fdX0_copyFrom_0]
  simp only [gt_nil, true_and, eq_self, gt_aload_n, gt_rfk, gw_nth, gt_get_r, gt_get_i, gt_get_z, gt_v0, gt_v1, gt_v2, gt_v3, gt_v4, gt_v5, gt_iconst, gt_bipush, gt_s1_0, gt_s2_0, gt_s3_0, gt_s4_0, gt_s1_1, gt_s2_1, gt_s3_1, gt_s4_1, gt_acpy, gt_put_i, gt_putz, gt_vret, bkX0_copyFrom_0, ka0_0, ra0_0_0, ra0_0_1, ka0_1, ka0_5, la0_5, kp1_0, rp1_0_0, rp1_0_1, kp1_1, kp1_5, lp1_5, (show Int32.toNatClampNeg 0 = 0 from rfl), (show Int32.toNatClampNeg 16 = 16 from rfl)]
  obtain ⟨μ_2, e_3, h⟩ := gw_bnd h
  refine ⟨rfl, 0, 0, Nat.le_refl _, Nat.le_refl _, ok_X7_copyFrom (gw_sub hS0 7 1 (by decide +kernel)) (gw_sub hpp1 7 1 (by decide +kernel)) e_3 ?_⟩
  simp only [gt_nil, true_and, eq_self, gt_aload_n, gt_rfk, gw_nth, gt_get_r, gt_get_i, gt_get_z, gt_iconst, gt_bipush, gt_s1_0, gt_s2_0, gt_s3_0, gt_s4_0, gt_s1_1, gt_s2_1, gt_s3_1, gt_s4_1, gt_acpy, gt_put_i, gt_putz, gt_vret, Option.toList, List.cons_append, List.nil_append, Nat.add_zero, ka0_0, ra0_0_0, ra0_0_1, ka0_1, ka0_5, la0_5, kp1_0, rp1_0_0, rp1_0_1, kp1_1, kp1_5, lp1_5, (show Int32.toNatClampNeg 0 = 0 from rfl), (show Int32.toNatClampNeg 16 = 16 from rfl)]
  refine ⟨by decide, by decide, by decide, by decide, by decide, ?_⟩
  obtain ⟨μ_5, hμ_5, h⟩ := gw_lt h
  try rw [← hμ_5]
  obtain ⟨μ_6, hμ_6, h⟩ := gw_lt h
  try rw [← hμ_6]
  obtain ⟨μ_7, hμ_7, h⟩ := gw_lt h
  try rw [← hμ_7]
  obtain ⟨c_8, h⟩ := gw_ife h
  refine ⟨c_8, ?_⟩
  obtain ⟨μ_9, hμ_9, h⟩ := gw_lt h
  try rw [← hμ_9]
  obtain ⟨μ_10, hμ_10, h⟩ := gw_lt h
  try rw [← hμ_10]
  obtain ⟨μ_11, hμ_11, h⟩ := gw_lt h
  try rw [← hμ_11]
  cases h
  exact ⟨Nat.le_refl _, Nat.le_refl _, hq⟩
def F_X10_hasBit (n0 : Nat) (v0 : Int32) (v1 : Int32) (μ : gw_M) : Option (Int32 × gw_M) := (if ((v0 >>> (v1 &&& 31)) &&& (1 : Int32)) = 0 then some (0, μ) else some (1, μ))
theorem ok_X10_hasBit {l : Launch} {x : gw_C} {d : Nat} {S : gw_S} {Q : Option Value → gw_S → gw_M → Prop} {v0 v1 : Int32} {n0 : Nat} {μ : gw_M} {r μ'} (h : F_X10_hasBit n0 v0 v1 μ = some (r, μ')) (hq : ((r = 0 ∨ r = 1) → Q (some (.int r)) S μ')) : gw_ok l x (d + 1) sgX10_hasBit 0 0 [.int v0, .int v1] S μ Q := by
  refine gw_ok_of stX10_hasBit (lv0 := [.int v0, .int v1]) (Nat.le_of_ble_eq_true rfl) rfl rfl ?_
  intro K hK
  unfold F_X10_hasBit at h
  refine hK _ _ _ _ _ _ _ ?_
  rw [fdX10_hasBit_0]
  simp only [gt_nil, true_and, eq_self, gt_iload_n, gt_ink, gw_nth, gt_ishr, gt_iconst, gt_iand, gt_if, gt_goto, bkX10_hasBit_0]
  refine ⟨fun c_1 => ?_, fun c_1 => ?_⟩
  · replace h := gw_ifp h c_1
    refine hK _ _ _ _ _ _ _ ?_
    rw [fdX10_hasBit_12]
    simp only [gt_nil, true_and, eq_self, gt_iconst, bkX10_hasBit_12]
    refine hK _ _ _ _ _ _ _ ?_
    rw [fdX10_hasBit_13]
    simp only [gt_nil, true_and, eq_self, gt_iret, gt_retz, bkX10_hasBit_13]
    cases h
    exact ⟨(Or.inl rfl), Nat.le_refl _, Nat.le_refl _, hq (Or.inl rfl)⟩
  · replace h := gw_ifn h c_1
    refine hK _ _ _ _ _ _ _ ?_
    rw [fdX10_hasBit_13]
    simp only [gt_nil, true_and, eq_self, gt_iret, gt_retz, bkX10_hasBit_13]
    cases h
    exact ⟨(Or.inr rfl), Nat.le_refl _, Nat.le_refl _, hq (Or.inr rfl)⟩
def F_X0_awaits (n0 : Nat) (a0 : Nat) (v1 : Int32) (μ : gw_M) : Option (Int32 × gw_M) := (F_X10_hasBit n0 (μ a0 2) v1 μ).bind (fun (z_4 : Int32 × gw_M) => some (z_4.1, z_4.2))
theorem ok_X0_awaits {l : Launch} {x : gw_C} {d : Nat} {S : gw_S} {Q : Option Value → gw_S → gw_M → Prop} {v1 : Int32} {a0 : Nat} {n0 : Nat} {μ : gw_M} {r μ'} (hS0 : gw_sh S 0 a0) (h : F_X0_awaits n0 a0 v1 μ = some (r, μ')) (hq : ((r = 0 ∨ r = 1) → Q (some (.int r)) S μ')) : gw_ok l x (d + 2) sgX0_awaits 0 0 [.ref a0, .int v1] S μ Q := by
  refine gw_ok_of stX0_awaits (lv0 := [.ref a0, .int v1]) (Nat.le_of_ble_eq_true rfl) rfl rfl ?_
  intro K hK
  have ka0_0 : gw_kd S a0 = 0 := (hS0 0 _ rfl).1
  unfold F_X0_awaits at h
  refine hK _ _ _ _ _ _ _ ?_
  rw [fdX0_awaits_0]
  simp only [gt_nil, true_and, eq_self, gt_aload_n, gt_rfk, gw_nth, gt_get_r, gt_get_i, gt_get_z, gt_iload_n, gt_ink, gt_s1_0, gt_s2_0, gt_s3_0, gt_s4_0, gt_s1_1, gt_s2_1, gt_s3_1, gt_s4_1, gt_acpy, gt_iret, gt_retz, bkX0_awaits_0, ka0_0]
  obtain ⟨⟨r_1, μ_2⟩, e_3, h⟩ := gw_bnd h
  refine ⟨rfl, 0, 0, Nat.le_refl _, Nat.le_refl _, ok_X10_hasBit e_3 ?_⟩
  intro hbr_1
  dsimp only at h
  simp only [gt_nil, true_and, eq_self, gt_iret, gt_retz, Option.toList, List.cons_append, List.nil_append, Nat.add_zero, ka0_0]
  cases h
  exact ⟨hbr_1, Nat.le_refl _, Nat.le_refl _, hq hbr_1⟩
def F_X0_await (n0 : Nat) (a0 : Nat) (v1 : Int32) (v2 : Int32) (μ : gw_M) : Option (gw_M) := (F_X0_awaits n0 a0 v1 μ).bind (fun (z_4 : Int32 × gw_M) => (if ¬ z_4.1 = 0 then some z_4.2 else gw_let (gw_up z_4.2 a0 2 ((z_4.2 a0 2) ||| ((1 : Int32) <<< (v1 &&& 31)))) (fun (μ_6 : gw_M) => (if 0 ≤ v1 ∧ v1.toNatClampNeg < 16 then gw_let (gw_up μ_6 (a0 + 5) v1.toNatClampNeg v2) (fun (μ_8 : gw_M) => some μ_8) else none))))
theorem ok_X0_await {l : Launch} {x : gw_C} {d : Nat} {S : gw_S} {Q : Option Value → gw_S → gw_M → Prop} {v1 v2 : Int32} {a0 : Nat} {n0 : Nat} {μ : gw_M} {μ'} (hS0 : gw_sh S 0 a0) (h : F_X0_await n0 a0 v1 v2 μ = some μ') (hq : Q none S μ') : gw_ok l x (d + 3) sgX0_await 0 0 [.ref a0, .int v1, .int v2] S μ Q := by
  refine gw_ok_of stX0_await (lv0 := [.ref a0, .int v1, .int v2]) (Nat.le_of_ble_eq_true rfl) rfl rfl ?_
  intro K hK
  have ka0_0 : gw_kd S a0 = 0 := (hS0 0 _ rfl).1
  have ra0_0_1 : gw_rf S a0 1 = a0 + 5 := (hS0 0 _ rfl).2.2 (1, 5) (by decide)
  have ka0_5 : gw_kd S (a0 + 5) = 12 := (hS0 5 _ rfl).1
  have la0_5 : gw_ln S (a0 + 5) = 16 := (hS0 5 _ rfl).2.1
  unfold F_X0_await at h
  refine hK _ _ _ _ _ _ _ ?_
  rw [fdX0_await_0]
  simp only [gt_nil, true_and, eq_self, gt_aload_n, gt_rfk, gw_nth, gt_iload_n, gt_ink, gt_v0, gt_v1, gt_v2, gt_v3, gt_v4, gt_v5, gt_if, gt_dup_i, gt_dup_r, gt_get_r, gt_get_i, gt_get_z, gt_iconst, gt_ishl, gt_ior, gt_put_i, gt_putz, gt_iastore, bkX0_await_0, ka0_0, ra0_0_1, ka0_5, la0_5]
  obtain ⟨⟨r_1, μ_2⟩, e_3, h⟩ := gw_bnd h
  refine ⟨rfl, 0, 0, Nat.le_refl _, Nat.le_refl _, ok_X0_awaits hS0 e_3 ?_⟩
  intro hbr_1
  dsimp only at h
  simp only [gt_nil, true_and, eq_self, gt_if, gt_aload_n, gt_rfk, gw_nth, gt_dup_i, gt_dup_r, gt_get_r, gt_get_i, gt_get_z, gt_iconst, gt_iload_n, gt_ink, gt_ishl, gt_ior, gt_put_i, gt_putz, gt_iastore, Option.toList, List.cons_append, List.nil_append, Nat.add_zero, ka0_0, ra0_0_1, ka0_5, la0_5]
  refine ⟨fun c_5 => ?_, fun c_5 => ?_⟩
  · replace h := gw_ifp h c_5
    refine hK _ _ _ _ _ _ _ ?_
    rw [fdX0_await_27]
    simp only [gt_nil, true_and, eq_self, gt_vret, bkX0_await_27, ka0_0, ra0_0_1, ka0_5, la0_5]
    cases h
    exact ⟨Nat.le_refl _, Nat.le_refl _, hq⟩
  · replace h := gw_ifn h c_5
    obtain ⟨μ_6, hμ_6, h⟩ := gw_lt h
    try rw [← hμ_6]
    obtain ⟨c_7, h⟩ := gw_ife h
    refine ⟨c_7, ?_⟩
    obtain ⟨μ_8, hμ_8, h⟩ := gw_lt h
    try rw [← hμ_8]
    refine hK _ _ _ _ _ _ _ ?_
    rw [fdX0_await_27]
    simp only [gt_nil, true_and, eq_self, gt_vret, bkX0_await_27, ka0_0, ra0_0_1, ka0_5, la0_5]
    cases h
    exact ⟨Nat.le_refl _, Nat.le_refl _, hq⟩
def F_X10_greatestOf_3 (n0 : Nat) : Nat → Int32 → Int32 → gw_M → Option (Int32 × gw_M)
  | 0, _, _, _ => none
  | n + 1, v0, v1, μ => (if v1 < 0 then some ((-1), μ) else (if ((v0 >>> (v1 &&& 31)) &&& (1 : Int32)) = 0 then gw_let (v1 + (-1)) (fun (w_3 : Int32) => F_X10_greatestOf_3 n0 n v0 w_3 μ) else some (v1, μ)))
def F_X10_greatestOf (n0 : Nat) (v0 : Int32) (μ : gw_M) : Option (Int32 × gw_M) := F_X10_greatestOf_3 n0 n0 v0 15 μ
theorem B_X10_greatestOf_3 {l : Launch} {x : gw_C} {d : Nat} {S : gw_S} {Q : Option Value → gw_S → gw_M → Prop} {K : Nat → gw_Kt} (hK : gw_cl l x (d + 0) bsX10_greatestOf Q K) {n0 : Nat} : ∀ {n : Nat} {v0 v1} {μ : gw_M} {r μ'}, F_X10_greatestOf_3 n0 n v0 v1 μ = some (r, μ') → Q (some (.int r)) S μ' → K 3 [.int v0, .int v1] [] S μ 0 0 := by
  intro n
  induction n with
  | zero => intro v0 v1 μ r μ' h hq; simp [F_X10_greatestOf_3] at h
  | succ n ih =>
    intro v0 v1 μ r μ' h hq
    simp only [F_X10_greatestOf_3] at h
    refine hK _ _ _ _ _ _ _ ?_
    rw [fdX10_greatestOf_3]
    simp only [gt_nil, true_and, eq_self, gt_iload_n, gt_ink, gw_nth, gt_if, gt_ishr, gt_iconst, gt_iand, gt_iret, gt_retz, bkX10_greatestOf_3]
    refine ⟨fun c_1 => ?_, fun c_1 => ?_⟩
    · replace h := gw_ifp h c_1
      refine hK _ _ _ _ _ _ _ ?_
      rw [fdX10_greatestOf_23]
      simp only [gt_nil, true_and, eq_self, gt_iconst, gt_iret, gt_retz, bkX10_greatestOf_23]
      cases h
      exact ⟨Nat.le_refl _, Nat.le_refl _, hq⟩
    · replace h := gw_ifn h c_1
      refine ⟨fun c_2 => ?_, fun c_2 => ?_⟩
      · replace h := gw_ifp h c_2
        refine hK _ _ _ _ _ _ _ ?_
        rw [fdX10_greatestOf_17]
        simp only [gt_nil, true_and, eq_self, gt_iinc, gt_ink, gw_nth, gw_set, gt_goto, bkX10_greatestOf_17]
        obtain ⟨w_3, hw_3, h⟩ := gw_lt h
        try rw [← hw_3]
        exact ih h hq
      · replace h := gw_ifn h c_2
        cases h
        exact ⟨Nat.le_refl _, Nat.le_refl _, hq⟩
theorem ok_X10_greatestOf {l : Launch} {x : gw_C} {d : Nat} {S : gw_S} {Q : Option Value → gw_S → gw_M → Prop} {v0 : Int32} {n0 : Nat} {μ : gw_M} {r μ'} (h : F_X10_greatestOf n0 v0 μ = some (r, μ')) (hq : Q (some (.int r)) S μ') : gw_ok l x (d + 1) sgX10_greatestOf 0 0 [.int v0] S μ Q := by
  refine gw_ok_of stX10_greatestOf (lv0 := [.int v0, .retAddr 0]) (Nat.le_of_ble_eq_true rfl) rfl rfl ?_
  intro K hK
  unfold F_X10_greatestOf at h
  refine hK _ _ _ _ _ _ _ ?_
  rw [fdX10_greatestOf_0]
  simp only [gt_nil, true_and, eq_self, gt_bipush, gt_istore_n, gw_set, bkX10_greatestOf_0]
  exact B_X10_greatestOf_3 hK h hq
def F_X0_ready (n0 : Nat) (a0 : Nat) (μ : gw_M) : Option (Int32 × gw_M) := (if (μ a0 4) = 0 then some ((-1), μ) else (if ¬ (μ a0 2) = 0 then (F_X10_greatestOf n0 (μ a0 2) μ).bind (fun (z_6 : Int32 × gw_M) => (F_X10_greatestOf n0 (z_6.2 a0 3) z_6.2).bind (fun (z_10 : Int32 × gw_M) => (if z_6.1 ≤ z_10.1 then some ((-1), z_10.2) else some (z_6.1, z_10.2)))) else some ((-1), μ)))
theorem ok_X0_ready {l : Launch} {x : gw_C} {d : Nat} {S : gw_S} {Q : Option Value → gw_S → gw_M → Prop} {a0 : Nat} {n0 : Nat} {μ : gw_M} {r μ'} (hS0 : gw_sh S 0 a0) (h : F_X0_ready n0 a0 μ = some (r, μ')) (hq : Q (some (.int r)) S μ') : gw_ok l x (d + 2) sgX0_ready 0 0 [.ref a0] S μ Q := by
  refine gw_ok_of stX0_ready (lv0 := [.ref a0, .retAddr 0]) (Nat.le_of_ble_eq_true rfl) rfl rfl ?_
  intro K hK
  have ka0_0 : gw_kd S a0 = 0 := (hS0 0 _ rfl).1
  unfold F_X0_ready at h
  refine hK _ _ _ _ _ _ _ ?_
  rw [fdX0_ready_0]
  simp only [gt_nil, true_and, eq_self, gt_aload_n, gt_rfk, gw_nth, gt_get_r, gt_get_i, gt_get_z, gt_if, bkX0_ready_0, ka0_0]
  refine ⟨fun c_1 => ?_, fun c_1 => ?_⟩
  · replace h := gw_ifp h c_1
    refine hK _ _ _ _ _ _ _ ?_
    rw [fdX0_ready_14]
    simp only [gt_nil, true_and, eq_self, gt_iconst, gt_iret, gt_retz, bkX0_ready_14, ka0_0]
    cases h
    exact ⟨Nat.le_refl _, Nat.le_refl _, hq⟩
  · replace h := gw_ifn h c_1
    refine ⟨fun c_2 => ?_, fun c_2 => ?_⟩
    · replace h := gw_ifp h c_2
      refine hK _ _ _ _ _ _ _ ?_
      rw [fdX0_ready_16]
      simp only [gt_nil, true_and, eq_self, gt_aload_n, gt_rfk, gw_nth, gt_get_r, gt_get_i, gt_get_z, gt_s1_0, gt_s2_0, gt_s3_0, gt_s4_0, gt_s1_1, gt_s2_1, gt_s3_1, gt_s4_1, gt_acpy, gt_istore_n, gw_set, gt_iload_n, gt_ink, gt_icmp, gt_goto, bkX0_ready_16, ka0_0]
      obtain ⟨⟨r_3, μ_4⟩, e_5, h⟩ := gw_bnd h
      refine ⟨rfl, 0, 0, Nat.le_refl _, Nat.le_refl _, ok_X10_greatestOf e_5 ?_⟩
      dsimp only at h
      simp only [gt_nil, true_and, eq_self, gt_istore_n, gw_set, gt_iload_n, gt_ink, gw_nth, gt_aload_n, gt_rfk, gt_get_r, gt_get_i, gt_get_z, gt_s1_0, gt_s2_0, gt_s3_0, gt_s4_0, gt_s1_1, gt_s2_1, gt_s3_1, gt_s4_1, gt_acpy, gt_icmp, gt_goto, Option.toList, List.cons_append, List.nil_append, Nat.add_zero, ka0_0]
      obtain ⟨⟨r_7, μ_8⟩, e_9, h⟩ := gw_bnd h
      refine ⟨rfl, 0, 0, Nat.le_refl _, Nat.le_refl _, ok_X10_greatestOf e_9 ?_⟩
      dsimp only at h
      simp only [gt_nil, true_and, eq_self, gt_icmp, gt_iload_n, gt_ink, gw_nth, gt_goto, Option.toList, List.cons_append, List.nil_append, Nat.add_zero, ka0_0]
      refine ⟨fun c_11 => ?_, fun c_11 => ?_⟩
      · replace h := gw_ifp h c_11
        refine hK _ _ _ _ _ _ _ ?_
        rw [fdX0_ready_39]
        simp only [gt_nil, true_and, eq_self, gt_iconst, bkX0_ready_39, ka0_0]
        refine hK _ _ _ _ _ _ _ ?_
        rw [fdX0_ready_40]
        simp only [gt_nil, true_and, eq_self, gt_iret, gt_retz, bkX0_ready_40, ka0_0]
        cases h
        exact ⟨Nat.le_refl _, Nat.le_refl _, hq⟩
      · replace h := gw_ifn h c_11
        refine hK _ _ _ _ _ _ _ ?_
        rw [fdX0_ready_40]
        simp only [gt_nil, true_and, eq_self, gt_iret, gt_retz, bkX0_ready_40, ka0_0]
        cases h
        exact ⟨Nat.le_refl _, Nat.le_refl _, hq⟩
    · replace h := gw_ifn h c_2
      refine hK _ _ _ _ _ _ _ ?_
      rw [fdX0_ready_14]
      simp only [gt_nil, true_and, eq_self, gt_iconst, gt_iret, gt_retz, bkX0_ready_14, ka0_0]
      cases h
      exact ⟨Nat.le_refl _, Nat.le_refl _, hq⟩
def F_X0_take (n0 : Nat) (a0 : Nat) (v1 : Int32) (v2 : Int32) (μ : gw_M) : Option (Int32 × gw_M) := gw_let (gw_up μ a0 2 ((μ a0 2) &&& (((1 : Int32) <<< (v1 &&& 31)) ^^^ ((-1) : Int32)))) (fun (μ_1 : gw_M) => gw_let (gw_up μ_1 a0 3 ((μ_1 a0 3) ||| ((1 : Int32) <<< (v1 &&& 31)))) (fun (μ_2 : gw_M) => (if 0 ≤ v1 ∧ v1.toNatClampNeg < 16 then some ((v2 - (μ_2 (a0 + 5) v1.toNatClampNeg)), μ_2) else none)))
theorem ok_X0_take {l : Launch} {x : gw_C} {d : Nat} {S : gw_S} {Q : Option Value → gw_S → gw_M → Prop} {v1 v2 : Int32} {a0 : Nat} {n0 : Nat} {μ : gw_M} {r μ'} (hS0 : gw_sh S 0 a0) (h : F_X0_take n0 a0 v1 v2 μ = some (r, μ')) (hq : Q (some (.int r)) S μ') : gw_ok l x (d + 1) sgX0_take 0 0 [.ref a0, .int v1, .int v2] S μ Q := by
  refine gw_ok_of stX0_take (lv0 := [.ref a0, .int v1, .int v2]) (Nat.le_of_ble_eq_true rfl) rfl rfl ?_
  intro K hK
  have ka0_0 : gw_kd S a0 = 0 := (hS0 0 _ rfl).1
  have ra0_0_1 : gw_rf S a0 1 = a0 + 5 := (hS0 0 _ rfl).2.2 (1, 5) (by decide)
  have ka0_5 : gw_kd S (a0 + 5) = 12 := (hS0 5 _ rfl).1
  have la0_5 : gw_ln S (a0 + 5) = 16 := (hS0 5 _ rfl).2.1
  unfold F_X0_take at h
  refine hK _ _ _ _ _ _ _ ?_
  rw [fdX0_take_0]
  simp only [gt_nil, true_and, eq_self, gt_aload_n, gt_rfk, gw_nth, gt_dup_i, gt_dup_r, gt_get_r, gt_get_i, gt_get_z, gt_iconst, gt_iload_n, gt_ink, gt_ishl, gt_ixor, gt_iand, gt_put_i, gt_putz, gt_ior, gt_iaload, gt_isub, gt_iret, gt_retz, bkX0_take_0, ka0_0, ra0_0_1, ka0_5, la0_5]
  obtain ⟨μ_1, hμ_1, h⟩ := gw_lt h
  try rw [← hμ_1]
  obtain ⟨μ_2, hμ_2, h⟩ := gw_lt h
  try rw [← hμ_2]
  obtain ⟨c_3, h⟩ := gw_ife h
  refine ⟨c_3, ?_⟩
  cases h
  exact ⟨Nat.le_refl _, Nat.le_refl _, hq⟩
def F_X0_endService (n0 : Nat) (a0 : Nat) (μ : gw_M) : Option (Int32 × gw_M) := (F_X10_greatestOf n0 (μ a0 3) μ).bind (fun (z_4 : Int32 × gw_M) => (if z_4.1 = (-1) then some (z_4.1, z_4.2) else gw_let (gw_up z_4.2 a0 3 ((z_4.2 a0 3) &&& (((1 : Int32) <<< (z_4.1 &&& 31)) ^^^ ((-1) : Int32)))) (fun (μ_6 : gw_M) => some (z_4.1, μ_6))))
theorem ok_X0_endService {l : Launch} {x : gw_C} {d : Nat} {S : gw_S} {Q : Option Value → gw_S → gw_M → Prop} {a0 : Nat} {n0 : Nat} {μ : gw_M} {r μ'} (hS0 : gw_sh S 0 a0) (h : F_X0_endService n0 a0 μ = some (r, μ')) (hq : Q (some (.int r)) S μ') : gw_ok l x (d + 2) sgX0_endService 0 0 [.ref a0] S μ Q := by
  refine gw_ok_of stX0_endService (lv0 := [.ref a0, .retAddr 0]) (Nat.le_of_ble_eq_true rfl) rfl rfl ?_
  intro K hK
  have ka0_0 : gw_kd S a0 = 0 := (hS0 0 _ rfl).1
  unfold F_X0_endService at h
  refine hK _ _ _ _ _ _ _ ?_
  rw [fdX0_endService_0]
  simp only [gt_nil, true_and, eq_self, gt_aload_n, gt_rfk, gw_nth, gt_get_r, gt_get_i, gt_get_z, gt_s1_0, gt_s2_0, gt_s3_0, gt_s4_0, gt_s1_1, gt_s2_1, gt_s3_1, gt_s4_1, gt_acpy, gt_istore_n, gw_set, gt_iload_n, gt_ink, gt_iconst, gt_icmp, gt_dup_i, gt_dup_r, gt_ishl, gt_ixor, gt_iand, gt_put_i, gt_putz, bkX0_endService_0, ka0_0]
  obtain ⟨⟨r_1, μ_2⟩, e_3, h⟩ := gw_bnd h
  refine ⟨rfl, 0, 0, Nat.le_refl _, Nat.le_refl _, ok_X10_greatestOf e_3 ?_⟩
  dsimp only at h
  simp only [gt_nil, true_and, eq_self, gt_istore_n, gw_set, gt_iload_n, gt_ink, gw_nth, gt_iconst, gt_icmp, gt_aload_n, gt_rfk, gt_dup_i, gt_dup_r, gt_get_r, gt_get_i, gt_get_z, gt_ishl, gt_ixor, gt_iand, gt_put_i, gt_putz, Option.toList, List.cons_append, List.nil_append, Nat.add_zero, ka0_0]
  refine ⟨fun c_5 => ?_, fun c_5 => ?_⟩
  · replace h := gw_ifp h c_5
    refine hK _ _ _ _ _ _ _ ?_
    rw [fdX0_endService_27]
    simp only [gt_nil, true_and, eq_self, gt_iload_n, gt_ink, gw_nth, gt_iret, gt_retz, bkX0_endService_27, ka0_0]
    cases h
    exact ⟨Nat.le_refl _, Nat.le_refl _, hq⟩
  · replace h := gw_ifn h c_5
    obtain ⟨μ_6, hμ_6, h⟩ := gw_lt h
    try rw [← hμ_6]
    refine hK _ _ _ _ _ _ _ ?_
    rw [fdX0_endService_27]
    simp only [gt_nil, true_and, eq_self, gt_iload_n, gt_ink, gw_nth, gt_iret, gt_retz, bkX0_endService_27, ka0_0]
    cases h
    exact ⟨Nat.le_refl _, Nat.le_refl _, hq⟩
def F_J9_floorDiv_7cf53 (n0 : Nat) (v0 : Int32) (v1 : Int32) (μ : gw_M) : Option (Int32 × gw_M) := (if ¬ v1 = 0 then gw_let ((v0 / v1)) (fun (w_2 : Int32) => (if 0 ≤ (v0 ^^^ v1) then some (w_2, μ) else (if (w_2 * v1) = v0 then some (w_2, μ) else some ((w_2 - (1 : Int32)), μ)))) else none)
theorem ok_J9_floorDiv_7cf53 {l : Launch} {x : gw_C} {d : Nat} {S : gw_S} {Q : Option Value → gw_S → gw_M → Prop} {v0 v1 : Int32} {n0 : Nat} {μ : gw_M} {r μ'} (h : F_J9_floorDiv_7cf53 n0 v0 v1 μ = some (r, μ')) (hq : Q (some (.int r)) S μ') : gw_ok l x (d + 1) sgJ9_floorDiv_7cf53 0 0 [.int v0, .int v1] S μ Q := by
  refine gw_ok_of stJ9_floorDiv_7cf53 (lv0 := [.int v0, .int v1, .retAddr 0]) (Nat.le_of_ble_eq_true rfl) rfl rfl ?_
  intro K hK
  unfold F_J9_floorDiv_7cf53 at h
  refine hK _ _ _ _ _ _ _ ?_
  rw [fdJ9_floorDiv_7cf53_0]
  simp only [gt_nil, true_and, eq_self, gt_iload_n, gt_ink, gw_nth, gt_idiv, gt_istore_n, gw_set, gt_ixor, gt_if, gt_imul, gt_icmp, gt_iconst, gt_isub, gt_iret, gt_retz, bkJ9_floorDiv_7cf53_0]
  obtain ⟨c_1, h⟩ := gw_ife h
  refine ⟨c_1, ?_⟩
  obtain ⟨w_2, hw_2, h⟩ := gw_lt h
  try rw [← hw_2]
  refine ⟨fun c_3 => ?_, fun c_3 => ?_⟩
  · replace h := gw_ifp h c_3
    refine hK _ _ _ _ _ _ _ ?_
    rw [fdJ9_floorDiv_7cf53_21]
    simp only [gt_nil, true_and, eq_self, gt_iload_n, gt_ink, gw_nth, gt_iret, gt_retz, bkJ9_floorDiv_7cf53_21]
    cases h
    exact ⟨Nat.le_refl _, Nat.le_refl _, hq⟩
  · replace h := gw_ifn h c_3
    refine ⟨fun c_4 => ?_, fun c_4 => ?_⟩
    · replace h := gw_ifp h c_4
      refine hK _ _ _ _ _ _ _ ?_
      rw [fdJ9_floorDiv_7cf53_21]
      simp only [gt_nil, true_and, eq_self, gt_iload_n, gt_ink, gw_nth, gt_iret, gt_retz, bkJ9_floorDiv_7cf53_21]
      cases h
      exact ⟨Nat.le_refl _, Nat.le_refl _, hq⟩
    · replace h := gw_ifn h c_4
      cases h
      exact ⟨Nat.le_refl _, Nat.le_refl _, hq⟩
def F_X0_clockUpon (n0 : Nat) (a0 : Nat) (v1 : Int32) (μ : gw_M) : Option (Int32 × gw_M) := (F_J9_floorDiv_7cf53 n0 (v1 * (μ a0 5)) 16 μ).bind (fun (z_4 : Int32 × gw_M) => some ((z_4.1 + (z_4.2 a0 6)), z_4.2))
theorem ok_X0_clockUpon {l : Launch} {x : gw_C} {d : Nat} {S : gw_S} {Q : Option Value → gw_S → gw_M → Prop} {v1 : Int32} {a0 : Nat} {n0 : Nat} {μ : gw_M} {r μ'} (hS0 : gw_sh S 0 a0) (h : F_X0_clockUpon n0 a0 v1 μ = some (r, μ')) (hq : Q (some (.int r)) S μ') : gw_ok l x (d + 2) sgX0_clockUpon 0 0 [.ref a0, .int v1] S μ Q := by
  refine gw_ok_of stX0_clockUpon (lv0 := [.ref a0, .int v1]) (Nat.le_of_ble_eq_true rfl) rfl rfl ?_
  intro K hK
  have ka0_0 : gw_kd S a0 = 0 := (hS0 0 _ rfl).1
  unfold F_X0_clockUpon at h
  refine hK _ _ _ _ _ _ _ ?_
  rw [fdX0_clockUpon_0]
  simp only [gt_nil, true_and, eq_self, gt_iload_n, gt_ink, gw_nth, gt_aload_n, gt_rfk, gt_get_r, gt_get_i, gt_get_z, gt_imul, gt_bipush, gt_s1_0, gt_s2_0, gt_s3_0, gt_s4_0, gt_s1_1, gt_s2_1, gt_s3_1, gt_s4_1, gt_acpy, gt_iadd, gt_iret, gt_retz, bkX0_clockUpon_0, ka0_0]
  obtain ⟨⟨r_1, μ_2⟩, e_3, h⟩ := gw_bnd h
  refine ⟨rfl, 0, 0, Nat.le_refl _, Nat.le_refl _, ok_J9_floorDiv_7cf53 e_3 ?_⟩
  dsimp only at h
  simp only [gt_nil, true_and, eq_self, gt_aload_n, gt_rfk, gw_nth, gt_get_r, gt_get_i, gt_get_z, gt_iadd, gt_iret, gt_retz, Option.toList, List.cons_append, List.nil_append, Nat.add_zero, ka0_0]
  cases h
  exact ⟨Nat.le_refl _, Nat.le_refl _, hq⟩
def F_X8_copyFrom (n0 : Nat) (a0 : Nat) (p1 : Nat) (μ : gw_M) : Option (gw_M) := gw_let (gw_cpy μ (p1 + 1) (a0 + 1) 0 0 16) (fun (μ_1 : gw_M) => gw_let (gw_cpy μ_1 (p1 + 2) (a0 + 2) 0 0 16) (fun (μ_2 : gw_M) => gw_let (gw_cpy μ_2 (p1 + 3) (a0 + 3) 0 0 16) (fun (μ_3 : gw_M) => gw_let (gw_up μ_3 a0 3 (μ_3 p1 3)) (fun (μ_4 : gw_M) => some μ_4))))
theorem ok_X8_copyFrom {l : Launch} {x : gw_C} {d : Nat} {S : gw_S} {Q : Option Value → gw_S → gw_M → Prop} {a0 p1 : Nat} {n0 : Nat} {μ : gw_M} {μ'} (hS0 : gw_sh S 8 a0) (hpp1 : gw_sh S 8 p1) (h : F_X8_copyFrom n0 a0 p1 μ = some μ') (hq : Q none S μ') : gw_ok l x (d + 1) sgX8_copyFrom 0 0 [.ref a0, .ref p1] S μ Q := by
  refine gw_ok_of stX8_copyFrom (lv0 := [.ref a0, .ref p1]) (Nat.le_of_ble_eq_true rfl) rfl rfl ?_
  intro K hK
  have ka0_0 : gw_kd S a0 = 8 := (hS0 0 _ rfl).1
  have ra0_0_0 : gw_rf S a0 0 = a0 + 1 := (hS0 0 _ rfl).2.2 (0, 1) (by decide)
  have ra0_0_1 : gw_rf S a0 1 = a0 + 2 := (hS0 0 _ rfl).2.2 (1, 2) (by decide)
  have ra0_0_2 : gw_rf S a0 2 = a0 + 3 := (hS0 0 _ rfl).2.2 (2, 3) (by decide)
  have ka0_1 : gw_kd S (a0 + 1) = 12 := (hS0 1 _ rfl).1
  have la0_1 : gw_ln S (a0 + 1) = 16 := (hS0 1 _ rfl).2.1
  have ka0_2 : gw_kd S (a0 + 2) = 12 := (hS0 2 _ rfl).1
  have la0_2 : gw_ln S (a0 + 2) = 16 := (hS0 2 _ rfl).2.1
  have ka0_3 : gw_kd S (a0 + 3) = 12 := (hS0 3 _ rfl).1
  have la0_3 : gw_ln S (a0 + 3) = 16 := (hS0 3 _ rfl).2.1
  have kp1_0 : gw_kd S p1 = 8 := (hpp1 0 _ rfl).1
  have rp1_0_0 : gw_rf S p1 0 = p1 + 1 := (hpp1 0 _ rfl).2.2 (0, 1) (by decide)
  have rp1_0_1 : gw_rf S p1 1 = p1 + 2 := (hpp1 0 _ rfl).2.2 (1, 2) (by decide)
  have rp1_0_2 : gw_rf S p1 2 = p1 + 3 := (hpp1 0 _ rfl).2.2 (2, 3) (by decide)
  have kp1_1 : gw_kd S (p1 + 1) = 12 := (hpp1 1 _ rfl).1
  have lp1_1 : gw_ln S (p1 + 1) = 16 := (hpp1 1 _ rfl).2.1
  have kp1_2 : gw_kd S (p1 + 2) = 12 := (hpp1 2 _ rfl).1
  have lp1_2 : gw_ln S (p1 + 2) = 16 := (hpp1 2 _ rfl).2.1
  have kp1_3 : gw_kd S (p1 + 3) = 12 := (hpp1 3 _ rfl).1
  have lp1_3 : gw_ln S (p1 + 3) = 16 := (hpp1 3 _ rfl).2.1
  unfold F_X8_copyFrom at h
  refine hK _ _ _ _ _ _ _ ?_
  rw [fdX8_copyFrom_0]
  simp only [gt_nil, true_and, eq_self, gt_aload_n, gt_rfk, gw_nth, gt_get_r, gt_get_i, gt_get_z, gt_iconst, gt_bipush, gt_s1_0, gt_s2_0, gt_s3_0, gt_s4_0, gt_s1_1, gt_s2_1, gt_s3_1, gt_s4_1, gt_acpy, gt_put_i, gt_putz, gt_vret, bkX8_copyFrom_0, ka0_0, ra0_0_0, ra0_0_1, ra0_0_2, ka0_1, la0_1, ka0_2, la0_2, ka0_3, la0_3, kp1_0, rp1_0_0, rp1_0_1, rp1_0_2, kp1_1, lp1_1, kp1_2, lp1_2, kp1_3, lp1_3, (show Int32.toNatClampNeg 0 = 0 from rfl), (show Int32.toNatClampNeg 16 = 16 from rfl)]
  refine ⟨by decide, by decide, by decide, by decide, by decide, ?_⟩
  obtain ⟨μ_1, hμ_1, h⟩ := gw_lt h
  try rw [← hμ_1]
  refine ⟨by decide, by decide, by decide, by decide, by decide, ?_⟩
  obtain ⟨μ_2, hμ_2, h⟩ := gw_lt h
  try rw [← hμ_2]
  refine ⟨by decide, by decide, by decide, by decide, by decide, ?_⟩
  obtain ⟨μ_3, hμ_3, h⟩ := gw_lt h
  try rw [← hμ_3]
  obtain ⟨μ_4, hμ_4, h⟩ := gw_lt h
  try rw [← hμ_4]
  cases h
  exact ⟨Nat.le_refl _, Nat.le_refl _, hq⟩
def F_X1_copyFrom (n0 : Nat) (a0 : Nat) (p1 : Nat) (μ : gw_M) : Option (gw_M) := (F_X0_copyFrom n0 (a0 + 1) (p1 + 1) μ).bind (fun (μ_2 : gw_M) => (F_X8_copyFrom n0 (a0 + 7) (p1 + 7) μ_2).bind (fun (μ_6 : gw_M) => (F_X8_copyFrom n0 (a0 + 11) (p1 + 11) μ_6).bind (fun (μ_10 : gw_M) => gw_let (gw_up μ_10 a0 3 (μ_10 p1 3)) (fun (μ_13 : gw_M) => gw_let (gw_up μ_13 a0 4 (μ_13 p1 4)) (fun (μ_14 : gw_M) => gw_let (gw_up μ_14 a0 5 (μ_14 p1 5)) (fun (μ_15 : gw_M) => some μ_15))))))
theorem ok_X1_copyFrom {l : Launch} {x : gw_C} {d : Nat} {S : gw_S} {Q : Option Value → gw_S → gw_M → Prop} {a0 p1 : Nat} {n0 : Nat} {μ : gw_M} {μ'} (hS0 : gw_sh S 1 a0) (hpp1 : gw_sh S 1 p1) (h : F_X1_copyFrom n0 a0 p1 μ = some μ') (hq : Q none S μ') : gw_ok l x (d + 3) sgX1_copyFrom 0 0 [.ref a0, .ref p1] S μ Q := by
  refine gw_ok_of stX1_copyFrom (lv0 := [.ref a0, .ref p1]) (Nat.le_of_ble_eq_true rfl) rfl rfl ?_
  intro K hK
  have ka0_0 : gw_kd S a0 = 1 := (hS0 0 _ rfl).1
  have ra0_0_0 : gw_rf S a0 0 = a0 + 1 := (hS0 0 _ rfl).2.2 (0, 1) (by decide)
  have ra0_0_1 : gw_rf S a0 1 = a0 + 7 := (hS0 0 _ rfl).2.2 (1, 7) (by decide)
  have ra0_0_2 : gw_rf S a0 2 = a0 + 11 := (hS0 0 _ rfl).2.2 (2, 11) (by decide)
  have ka0_1 : gw_kd S (a0 + 1) = 0 := (hS0 1 _ rfl).1
  have ka0_11 : gw_kd S (a0 + 11) = 8 := (hS0 11 _ rfl).1
  have ka0_7 : gw_kd S (a0 + 7) = 8 := (hS0 7 _ rfl).1
  have kp1_0 : gw_kd S p1 = 1 := (hpp1 0 _ rfl).1
  have rp1_0_0 : gw_rf S p1 0 = p1 + 1 := (hpp1 0 _ rfl).2.2 (0, 1) (by decide)
  have rp1_0_1 : gw_rf S p1 1 = p1 + 7 := (hpp1 0 _ rfl).2.2 (1, 7) (by decide)
  have rp1_0_2 : gw_rf S p1 2 = p1 + 11 := (hpp1 0 _ rfl).2.2 (2, 11) (by decide)
  have kp1_1 : gw_kd S (p1 + 1) = 0 := (hpp1 1 _ rfl).1
  have kp1_11 : gw_kd S (p1 + 11) = 8 := (hpp1 11 _ rfl).1
  have kp1_7 : gw_kd S (p1 + 7) = 8 := (hpp1 7 _ rfl).1
  unfold F_X1_copyFrom at h
  refine hK _ _ _ _ _ _ _ ?_
  rw [fdX1_copyFrom_0]
  simp only [gt_nil, true_and, eq_self, gt_aload_n, gt_rfk, gw_nth, gt_get_r, gt_get_i, gt_get_z, gt_v0, gt_v1, gt_v2, gt_v3, gt_v4, gt_v5, gt_put_i, gt_putz, gt_vret, bkX1_copyFrom_0, ka0_0, ra0_0_0, ra0_0_1, ra0_0_2, ka0_1, ka0_11, ka0_7, kp1_0, rp1_0_0, rp1_0_1, rp1_0_2, kp1_1, kp1_11, kp1_7]
  obtain ⟨μ_2, e_3, h⟩ := gw_bnd h
  refine ⟨rfl, 0, 0, Nat.le_refl _, Nat.le_refl _, ok_X0_copyFrom (gw_sub hS0 0 1 (by decide +kernel)) (gw_sub hpp1 0 1 (by decide +kernel)) e_3 ?_⟩
  simp only [gt_nil, true_and, eq_self, gt_aload_n, gt_rfk, gw_nth, gt_get_r, gt_get_i, gt_get_z, gt_v0, gt_v1, gt_v2, gt_v3, gt_v4, gt_v5, gt_put_i, gt_putz, gt_vret, Option.toList, List.cons_append, List.nil_append, Nat.add_zero, ka0_0, ra0_0_0, ra0_0_1, ra0_0_2, ka0_1, ka0_11, ka0_7, kp1_0, rp1_0_0, rp1_0_1, rp1_0_2, kp1_1, kp1_11, kp1_7]
  obtain ⟨μ_6, e_7, h⟩ := gw_bnd h
  refine ⟨rfl, 0, 0, Nat.le_refl _, Nat.le_refl _, ok_X8_copyFrom (gw_sub hS0 8 7 (by decide +kernel)) (gw_sub hpp1 8 7 (by decide +kernel)) e_7 ?_⟩
  simp only [gt_nil, true_and, eq_self, gt_aload_n, gt_rfk, gw_nth, gt_get_r, gt_get_i, gt_get_z, gt_v0, gt_v1, gt_v2, gt_v3, gt_v4, gt_v5, gt_put_i, gt_putz, gt_vret, Option.toList, List.cons_append, List.nil_append, Nat.add_zero, ka0_0, ra0_0_0, ra0_0_1, ra0_0_2, ka0_1, ka0_11, ka0_7, kp1_0, rp1_0_0, rp1_0_1, rp1_0_2, kp1_1, kp1_11, kp1_7]
  obtain ⟨μ_10, e_11, h⟩ := gw_bnd h
  refine ⟨rfl, 0, 0, Nat.le_refl _, Nat.le_refl _, ok_X8_copyFrom (gw_sub hS0 8 11 (by decide +kernel)) (gw_sub hpp1 8 11 (by decide +kernel)) e_11 ?_⟩
  simp only [gt_nil, true_and, eq_self, gt_aload_n, gt_rfk, gw_nth, gt_get_r, gt_get_i, gt_get_z, gt_put_i, gt_putz, gt_vret, Option.toList, List.cons_append, List.nil_append, Nat.add_zero, ka0_0, ra0_0_0, ra0_0_1, ra0_0_2, ka0_1, ka0_11, ka0_7, kp1_0, rp1_0_0, rp1_0_1, rp1_0_2, kp1_1, kp1_11, kp1_7]
  obtain ⟨μ_13, hμ_13, h⟩ := gw_lt h
  try rw [← hμ_13]
  obtain ⟨μ_14, hμ_14, h⟩ := gw_lt h
  try rw [← hμ_14]
  obtain ⟨μ_15, hμ_15, h⟩ := gw_lt h
  try rw [← hμ_15]
  cases h
  exact ⟨Nat.le_refl _, Nat.le_refl _, hq⟩
def F_X7_goTo (n0 : Nat) (a0 : Nat) (v1 : Int32) (μ : gw_M) : Option (gw_M) := (if v1 < 0 then some μ else (if (μ a0 3) ≤ v1 then some μ else gw_let (gw_up μ a0 4 v1) (fun (μ_3 : gw_M) => some μ_3)))
theorem ok_X7_goTo {l : Launch} {x : gw_C} {d : Nat} {S : gw_S} {Q : Option Value → gw_S → gw_M → Prop} {v1 : Int32} {a0 : Nat} {n0 : Nat} {μ : gw_M} {μ'} (hS0 : gw_sh S 7 a0) (h : F_X7_goTo n0 a0 v1 μ = some μ') (hq : Q none S μ') : gw_ok l x (d + 1) sgX7_goTo 0 0 [.ref a0, .int v1] S μ Q := by
  refine gw_ok_of stX7_goTo (lv0 := [.ref a0, .int v1]) (Nat.le_of_ble_eq_true rfl) rfl rfl ?_
  intro K hK
  have ka0_0 : gw_kd S a0 = 7 := (hS0 0 _ rfl).1
  unfold F_X7_goTo at h
  refine hK _ _ _ _ _ _ _ ?_
  rw [fdX7_goTo_0]
  simp only [gt_nil, true_and, eq_self, gt_iload_n, gt_ink, gw_nth, gt_if, gt_aload_n, gt_rfk, gt_get_r, gt_get_i, gt_get_z, gt_icmp, gt_put_i, gt_putz, bkX7_goTo_0, ka0_0]
  refine ⟨fun c_1 => ?_, fun c_1 => ?_⟩
  · replace h := gw_ifp h c_1
    refine hK _ _ _ _ _ _ _ ?_
    rw [fdX7_goTo_17]
    simp only [gt_nil, true_and, eq_self, gt_vret, bkX7_goTo_17, ka0_0]
    cases h
    exact ⟨Nat.le_refl _, Nat.le_refl _, hq⟩
  · replace h := gw_ifn h c_1
    refine ⟨fun c_2 => ?_, fun c_2 => ?_⟩
    · replace h := gw_ifp h c_2
      refine hK _ _ _ _ _ _ _ ?_
      rw [fdX7_goTo_17]
      simp only [gt_nil, true_and, eq_self, gt_vret, bkX7_goTo_17, ka0_0]
      cases h
      exact ⟨Nat.le_refl _, Nat.le_refl _, hq⟩
    · replace h := gw_ifn h c_2
      obtain ⟨μ_3, hμ_3, h⟩ := gw_lt h
      try rw [← hμ_3]
      refine hK _ _ _ _ _ _ _ ?_
      rw [fdX7_goTo_17]
      simp only [gt_nil, true_and, eq_self, gt_vret, bkX7_goTo_17, ka0_0]
      cases h
      exact ⟨Nat.le_refl _, Nat.le_refl _, hq⟩
def F_X1_trapAt (n0 : Nat) (a0 : Nat) (v1 : Int32) (μ : gw_M) : Option (gw_M) := gw_let (gw_up μ a0 5 v1) (fun (μ_1 : gw_M) => (F_X7_goTo n0 (a0 + 2) (μ_1 a0 3) μ_1).bind (fun (μ_3 : gw_M) => some μ_3))
theorem ok_X1_trapAt {l : Launch} {x : gw_C} {d : Nat} {S : gw_S} {Q : Option Value → gw_S → gw_M → Prop} {v1 : Int32} {a0 : Nat} {n0 : Nat} {μ : gw_M} {μ'} (hS0 : gw_sh S 1 a0) (h : F_X1_trapAt n0 a0 v1 μ = some μ') (hq : Q none S μ') : gw_ok l x (d + 2) sgX1_trapAt 0 0 [.ref a0, .int v1] S μ Q := by
  refine gw_ok_of stX1_trapAt (lv0 := [.ref a0, .int v1]) (Nat.le_of_ble_eq_true rfl) rfl rfl ?_
  intro K hK
  have ka0_0 : gw_kd S a0 = 1 := (hS0 0 _ rfl).1
  have ra0_0_0 : gw_rf S a0 0 = a0 + 1 := (hS0 0 _ rfl).2.2 (0, 1) (by decide)
  have ka0_1 : gw_kd S (a0 + 1) = 0 := (hS0 1 _ rfl).1
  have ra0_1_0 : gw_rf S (a0 + 1) 0 = a0 + 2 := (hS0 1 _ rfl).2.2 (0, 2) (by decide)
  have ka0_2 : gw_kd S (a0 + 2) = 7 := (hS0 2 _ rfl).1
  unfold F_X1_trapAt at h
  refine hK _ _ _ _ _ _ _ ?_
  rw [fdX1_trapAt_0]
  simp only [gt_nil, true_and, eq_self, gt_aload_n, gt_rfk, gw_nth, gt_iload_n, gt_ink, gt_put_i, gt_putz, gt_get_r, gt_get_i, gt_get_z, gt_v0, gt_v1, gt_v2, gt_v3, gt_v4, gt_v5, gt_vret, bkX1_trapAt_0, ka0_0, ra0_0_0, ka0_1, ra0_1_0, ka0_2]
  obtain ⟨μ_1, hμ_1, h⟩ := gw_lt h
  try rw [← hμ_1]
  obtain ⟨μ_3, e_4, h⟩ := gw_bnd h
  refine ⟨rfl, 0, 0, Nat.le_refl _, Nat.le_refl _, ok_X7_goTo (gw_sub hS0 7 2 (by decide +kernel)) e_4 ?_⟩
  simp only [gt_nil, true_and, eq_self, gt_vret, Option.toList, List.cons_append, List.nil_append, Nat.add_zero, ka0_0, ra0_0_0, ka0_1, ra0_1_0, ka0_2]
  cases h
  exact ⟨Nat.le_refl _, Nat.le_refl _, hq⟩
def F_X8_put (n0 : Nat) (a0 : Nat) (v1 : Int32) (v2 : Int32) (v3 : Int32) (μ : gw_M) : Option (gw_M) := (if 0 ≤ v1 ∧ v1.toNatClampNeg < 16 then gw_let (gw_up μ (a0 + 1) v1.toNatClampNeg v2) (fun (μ_2 : gw_M) => (if 0 ≤ v1 ∧ v1.toNatClampNeg < 16 then gw_let (gw_up μ_2 (a0 + 2) v1.toNatClampNeg v3) (fun (μ_4 : gw_M) => (if 0 ≤ v1 ∧ v1.toNatClampNeg < 16 then gw_let (gw_up μ_4 (a0 + 3) v1.toNatClampNeg (μ_4 a0 3)) (fun (μ_6 : gw_M) => gw_let (gw_up μ_6 a0 3 ((μ_6 a0 3) + (1 : Int32))) (fun (μ_7 : gw_M) => some μ_7)) else none)) else none)) else none)
theorem ok_X8_put {l : Launch} {x : gw_C} {d : Nat} {S : gw_S} {Q : Option Value → gw_S → gw_M → Prop} {v1 v2 v3 : Int32} {a0 : Nat} {n0 : Nat} {μ : gw_M} {μ'} (hS0 : gw_sh S 8 a0) (h : F_X8_put n0 a0 v1 v2 v3 μ = some μ') (hq : Q none S μ') : gw_ok l x (d + 1) sgX8_put 0 0 [.ref a0, .int v1, .int v2, .int v3] S μ Q := by
  refine gw_ok_of stX8_put (lv0 := [.ref a0, .int v1, .int v2, .int v3]) (Nat.le_of_ble_eq_true rfl) rfl rfl ?_
  intro K hK
  have ka0_0 : gw_kd S a0 = 8 := (hS0 0 _ rfl).1
  have ra0_0_0 : gw_rf S a0 0 = a0 + 1 := (hS0 0 _ rfl).2.2 (0, 1) (by decide)
  have ra0_0_1 : gw_rf S a0 1 = a0 + 2 := (hS0 0 _ rfl).2.2 (1, 2) (by decide)
  have ra0_0_2 : gw_rf S a0 2 = a0 + 3 := (hS0 0 _ rfl).2.2 (2, 3) (by decide)
  have ka0_1 : gw_kd S (a0 + 1) = 12 := (hS0 1 _ rfl).1
  have la0_1 : gw_ln S (a0 + 1) = 16 := (hS0 1 _ rfl).2.1
  have ka0_2 : gw_kd S (a0 + 2) = 12 := (hS0 2 _ rfl).1
  have la0_2 : gw_ln S (a0 + 2) = 16 := (hS0 2 _ rfl).2.1
  have ka0_3 : gw_kd S (a0 + 3) = 12 := (hS0 3 _ rfl).1
  have la0_3 : gw_ln S (a0 + 3) = 16 := (hS0 3 _ rfl).2.1
  unfold F_X8_put at h
  refine hK _ _ _ _ _ _ _ ?_
  rw [fdX8_put_0]
  simp only [gt_nil, true_and, eq_self, gt_aload_n, gt_rfk, gw_nth, gt_get_r, gt_get_i, gt_get_z, gt_iload_n, gt_ink, gt_iastore, gt_dup_i, gt_dup_r, gt_iconst, gt_iadd, gt_put_i, gt_putz, gt_vret, bkX8_put_0, ka0_0, ra0_0_0, ra0_0_1, ra0_0_2, ka0_1, la0_1, ka0_2, la0_2, ka0_3, la0_3]
  obtain ⟨c_1, h⟩ := gw_ife h
  refine ⟨c_1, ?_⟩
  obtain ⟨μ_2, hμ_2, h⟩ := gw_lt h
  try rw [← hμ_2]
  obtain ⟨c_3, h⟩ := gw_ife h
  refine ⟨c_3, ?_⟩
  obtain ⟨μ_4, hμ_4, h⟩ := gw_lt h
  try rw [← hμ_4]
  obtain ⟨c_5, h⟩ := gw_ife h
  refine ⟨c_5, ?_⟩
  obtain ⟨μ_6, hμ_6, h⟩ := gw_lt h
  try rw [← hμ_6]
  obtain ⟨μ_7, hμ_7, h⟩ := gw_lt h
  try rw [← hμ_7]
  cases h
  exact ⟨Nat.le_refl _, Nat.le_refl _, hq⟩
def F_X1_actAlone_51 (n0 : Nat) (a0 : Nat) (v1 : Int32) (μ : gw_M) : Option (gw_M) := (if ¬ v1 = 9 then some μ else (F_X7_goTo n0 (a0 + 2) (μ a0 5) μ).bind (fun (μ_3 : gw_M) => some μ_3))
def F_X1_actAlone (n0 : Nat) (a0 : Nat) (v1 : Int32) (v2 : Int32) (v3 : Int32) (μ : gw_M) : Option (gw_M) := (if ¬ v1 = 6 then (if ¬ v1 = 8 then F_X1_actAlone_51 n0 a0 v1 μ else (if (μ a0 4) = (-1) then F_X1_actAlone_51 n0 a0 v1 μ else (F_X8_put n0 (a0 + 7) (μ a0 4) v2 7 μ).bind (fun (μ_5 : gw_M) => some μ_5))) else (F_X8_put n0 (a0 + 7) v2 v3 7 μ).bind (fun (μ_9 : gw_M) => some μ_9))
theorem B_X1_actAlone_51 {l : Launch} {x : gw_C} {d : Nat} {S : gw_S} {Q : Option Value → gw_S → gw_M → Prop} {K : Nat → gw_Kt} (hK : gw_cl l x (d + 1) bsX1_actAlone Q K) {a0 : Nat} (hS0 : gw_sh S 1 a0) {n0 : Nat} {v1} {u2 u3 : Value} {μ : gw_M} {μ'} (h : F_X1_actAlone_51 n0 a0 v1 μ = some μ') (hq : Q none S μ') : K 51 [.ref a0, .int v1, u2, u3] [] S μ 0 0 := by
  have ka0_0 : gw_kd S a0 = 1 := (hS0 0 _ rfl).1
  have ra0_0_0 : gw_rf S a0 0 = a0 + 1 := (hS0 0 _ rfl).2.2 (0, 1) (by decide)
  have ka0_1 : gw_kd S (a0 + 1) = 0 := (hS0 1 _ rfl).1
  have ra0_1_0 : gw_rf S (a0 + 1) 0 = a0 + 2 := (hS0 1 _ rfl).2.2 (0, 2) (by decide)
  have ka0_2 : gw_kd S (a0 + 2) = 7 := (hS0 2 _ rfl).1
  unfold F_X1_actAlone_51 at h
  refine hK _ _ _ _ _ _ _ ?_
  rw [fdX1_actAlone_51]
  simp only [gt_nil, true_and, eq_self, gt_iload_n, gt_ink, gw_nth, gt_bipush, gt_icmp, gt_aload_n, gt_rfk, gt_get_r, gt_get_i, gt_get_z, gt_v0, gt_v1, gt_v2, gt_v3, gt_v4, gt_v5, bkX1_actAlone_51, ka0_0, ra0_0_0, ka0_1, ra0_1_0, ka0_2]
  refine ⟨fun c_1 => ?_, fun c_1 => ?_⟩
  · replace h := gw_ifp h c_1
    refine hK _ _ _ _ _ _ _ ?_
    rw [fdX1_actAlone_71]
    simp only [gt_nil, true_and, eq_self, gt_vret, bkX1_actAlone_71, ka0_0, ra0_0_0, ka0_1, ra0_1_0, ka0_2]
    cases h
    exact ⟨Nat.le_refl _, Nat.le_refl _, hq⟩
  · replace h := gw_ifn h c_1
    obtain ⟨μ_3, e_4, h⟩ := gw_bnd h
    refine ⟨rfl, 0, 0, Nat.le_refl _, Nat.le_refl _, ok_X7_goTo (gw_sub hS0 7 2 (by decide +kernel)) e_4 ?_⟩
    simp only [gt_nil, true_and, eq_self, Option.toList, List.cons_append, List.nil_append, Nat.add_zero, ka0_0, ra0_0_0, ka0_1, ra0_1_0, ka0_2]
    refine hK _ _ _ _ _ _ _ ?_
    rw [fdX1_actAlone_71]
    simp only [gt_nil, true_and, eq_self, gt_vret, bkX1_actAlone_71, ka0_0, ra0_0_0, ka0_1, ra0_1_0, ka0_2]
    cases h
    exact ⟨Nat.le_refl _, Nat.le_refl _, hq⟩
theorem ok_X1_actAlone {l : Launch} {x : gw_C} {d : Nat} {S : gw_S} {Q : Option Value → gw_S → gw_M → Prop} {v1 v2 v3 : Int32} {a0 : Nat} {n0 : Nat} {μ : gw_M} {μ'} (hS0 : gw_sh S 1 a0) (h : F_X1_actAlone n0 a0 v1 v2 v3 μ = some μ') (hq : Q none S μ') : gw_ok l x (d + 2) sgX1_actAlone 0 0 [.ref a0, .int v1, .int v2, .int v3] S μ Q := by
  refine gw_ok_of stX1_actAlone (lv0 := [.ref a0, .int v1, .int v2, .int v3]) (Nat.le_of_ble_eq_true rfl) rfl rfl ?_
  intro K hK
  have ka0_0 : gw_kd S a0 = 1 := (hS0 0 _ rfl).1
  have ra0_0_1 : gw_rf S a0 1 = a0 + 7 := (hS0 0 _ rfl).2.2 (1, 7) (by decide)
  have ka0_7 : gw_kd S (a0 + 7) = 8 := (hS0 7 _ rfl).1
  unfold F_X1_actAlone at h
  refine hK _ _ _ _ _ _ _ ?_
  rw [fdX1_actAlone_0]
  simp only [gt_nil, true_and, eq_self, gt_iload_n, gt_ink, gw_nth, gt_bipush, gt_icmp, gt_aload_n, gt_rfk, gt_get_r, gt_get_i, gt_get_z, gt_v0, gt_v1, gt_v2, gt_v3, gt_v4, gt_v5, gt_goto, bkX1_actAlone_0, ka0_0, ra0_0_1, ka0_7]
  refine ⟨fun c_1 => ?_, fun c_1 => ?_⟩
  · replace h := gw_ifp h c_1
    refine hK _ _ _ _ _ _ _ ?_
    rw [fdX1_actAlone_20]
    simp only [gt_nil, true_and, eq_self, gt_iload_n, gt_ink, gw_nth, gt_bipush, gt_icmp, gt_aload_n, gt_rfk, gt_get_r, gt_get_i, gt_get_z, gt_iconst, gt_v0, gt_v1, gt_v2, gt_v3, gt_v4, gt_v5, gt_goto, bkX1_actAlone_20, ka0_0, ra0_0_1, ka0_7]
    refine ⟨fun c_2 => ?_, fun c_2 => ?_⟩
    · replace h := gw_ifp h c_2
      exact B_X1_actAlone_51 hK hS0 h hq
    · replace h := gw_ifn h c_2
      refine ⟨fun c_3 => ?_, fun c_3 => ?_⟩
      · replace h := gw_ifp h c_3
        exact B_X1_actAlone_51 hK hS0 h hq
      · replace h := gw_ifn h c_3
        obtain ⟨μ_5, e_6, h⟩ := gw_bnd h
        refine ⟨rfl, 0, 0, Nat.le_refl _, Nat.le_refl _, ok_X8_put (gw_sub hS0 8 7 (by decide +kernel)) e_6 ?_⟩
        simp only [gt_nil, true_and, eq_self, gt_goto, Option.toList, List.cons_append, List.nil_append, Nat.add_zero, ka0_0, ra0_0_1, ka0_7]
        refine hK _ _ _ _ _ _ _ ?_
        rw [fdX1_actAlone_71]
        simp only [gt_nil, true_and, eq_self, gt_vret, bkX1_actAlone_71, ka0_0, ra0_0_1, ka0_7]
        cases h
        exact ⟨Nat.le_refl _, Nat.le_refl _, hq⟩
  · replace h := gw_ifn h c_1
    obtain ⟨μ_9, e_10, h⟩ := gw_bnd h
    refine ⟨rfl, 0, 0, Nat.le_refl _, Nat.le_refl _, ok_X8_put (gw_sub hS0 8 7 (by decide +kernel)) e_10 ?_⟩
    simp only [gt_nil, true_and, eq_self, gt_goto, Option.toList, List.cons_append, List.nil_append, Nat.add_zero, ka0_0, ra0_0_1, ka0_7]
    refine hK _ _ _ _ _ _ _ ?_
    rw [fdX1_actAlone_71]
    simp only [gt_nil, true_and, eq_self, gt_vret, bkX1_actAlone_71, ka0_0, ra0_0_1, ka0_7]
    cases h
    exact ⟨Nat.le_refl _, Nat.le_refl _, hq⟩
def F_X2_copyFrom (n0 : Nat) (a0 : Nat) (p1 : Nat) (μ : gw_M) : Option (gw_M) := gw_let (gw_cpy μ (p1 + 1) (a0 + 1) 0 0 24) (fun (μ_1 : gw_M) => gw_let (gw_cpy μ_1 (p1 + 2) (a0 + 2) 0 0 24) (fun (μ_2 : gw_M) => gw_let (gw_cpy μ_2 (p1 + 3) (a0 + 3) 0 0 24) (fun (μ_3 : gw_M) => gw_let (gw_cpy μ_3 (p1 + 4) (a0 + 4) 0 0 24) (fun (μ_4 : gw_M) => gw_let (gw_cpy μ_4 (p1 + 5) (a0 + 5) 0 0 2) (fun (μ_5 : gw_M) => gw_let (gw_up μ_5 a0 5 (μ_5 p1 5)) (fun (μ_6 : gw_M) => gw_let (gw_up μ_6 a0 6 (μ_6 p1 6)) (fun (μ_7 : gw_M) => gw_let (gw_cpy μ_7 (p1 + 6) (a0 + 6) 0 0 24) (fun (μ_8 : gw_M) => gw_let (gw_up μ_8 a0 8 (μ_8 p1 8)) (fun (μ_9 : gw_M) => gw_let (gw_up μ_9 a0 9 (μ_9 p1 9)) (fun (μ_10 : gw_M) => gw_let (gw_cpy μ_10 (p1 + 7) (a0 + 7) 0 0 24) (fun (μ_11 : gw_M) => gw_let (gw_cpy μ_11 (p1 + 8) (a0 + 8) 0 0 4) (fun (μ_12 : gw_M) => gw_let (gw_cpy μ_12 (p1 + 9) (a0 + 9) 0 0 2) (fun (μ_13 : gw_M) => gw_let (gw_cpy μ_13 (p1 + 10) (a0 + 10) 0 0 2) (fun (μ_14 : gw_M) => gw_let (gw_cpy μ_14 (p1 + 11) (a0 + 11) 0 0 2) (fun (μ_15 : gw_M) => some μ_15)))))))))))))))
theorem ok_X2_copyFrom {l : Launch} {x : gw_C} {d : Nat} {S : gw_S} {Q : Option Value → gw_S → gw_M → Prop} {a0 p1 : Nat} {n0 : Nat} {μ : gw_M} {μ'} (hS0 : gw_sh S 2 a0) (hpp1 : gw_sh S 2 p1) (h : F_X2_copyFrom n0 a0 p1 μ = some μ') (hq : Q none S μ') : gw_ok l x (d + 1) sgX2_copyFrom 0 0 [.ref a0, .ref p1] S μ Q := by
  refine gw_ok_of stX2_copyFrom (lv0 := [.ref a0, .ref p1]) (Nat.le_of_ble_eq_true rfl) rfl rfl ?_
  intro K hK
  have ka0_0 : gw_kd S a0 = 2 := (hS0 0 _ rfl).1
  have ra0_0_0 : gw_rf S a0 0 = a0 + 1 := (hS0 0 _ rfl).2.2 (0, 1) (by decide)
  have ra0_0_1 : gw_rf S a0 1 = a0 + 2 := (hS0 0 _ rfl).2.2 (1, 2) (by decide)
  have ra0_0_10 : gw_rf S a0 10 = a0 + 7 := (hS0 0 _ rfl).2.2 (10, 7) (by decide)
  have ra0_0_11 : gw_rf S a0 11 = a0 + 8 := (hS0 0 _ rfl).2.2 (11, 8) (by decide)
  have ra0_0_12 : gw_rf S a0 12 = a0 + 9 := (hS0 0 _ rfl).2.2 (12, 9) (by decide)
  have ra0_0_13 : gw_rf S a0 13 = a0 + 10 := (hS0 0 _ rfl).2.2 (13, 10) (by decide)
  have ra0_0_14 : gw_rf S a0 14 = a0 + 11 := (hS0 0 _ rfl).2.2 (14, 11) (by decide)
  have ra0_0_2 : gw_rf S a0 2 = a0 + 3 := (hS0 0 _ rfl).2.2 (2, 3) (by decide)
  have ra0_0_3 : gw_rf S a0 3 = a0 + 4 := (hS0 0 _ rfl).2.2 (3, 4) (by decide)
  have ra0_0_4 : gw_rf S a0 4 = a0 + 5 := (hS0 0 _ rfl).2.2 (4, 5) (by decide)
  have ra0_0_7 : gw_rf S a0 7 = a0 + 6 := (hS0 0 _ rfl).2.2 (7, 6) (by decide)
  have ka0_1 : gw_kd S (a0 + 1) = 12 := (hS0 1 _ rfl).1
  have la0_1 : gw_ln S (a0 + 1) = 24 := (hS0 1 _ rfl).2.1
  have ka0_10 : gw_kd S (a0 + 10) = 12 := (hS0 10 _ rfl).1
  have la0_10 : gw_ln S (a0 + 10) = 2 := (hS0 10 _ rfl).2.1
  have ka0_11 : gw_kd S (a0 + 11) = 12 := (hS0 11 _ rfl).1
  have la0_11 : gw_ln S (a0 + 11) = 2 := (hS0 11 _ rfl).2.1
  have ka0_2 : gw_kd S (a0 + 2) = 12 := (hS0 2 _ rfl).1
  have la0_2 : gw_ln S (a0 + 2) = 24 := (hS0 2 _ rfl).2.1
  have ka0_3 : gw_kd S (a0 + 3) = 12 := (hS0 3 _ rfl).1
  have la0_3 : gw_ln S (a0 + 3) = 24 := (hS0 3 _ rfl).2.1
  have ka0_4 : gw_kd S (a0 + 4) = 12 := (hS0 4 _ rfl).1
  have la0_4 : gw_ln S (a0 + 4) = 24 := (hS0 4 _ rfl).2.1
  have ka0_5 : gw_kd S (a0 + 5) = 12 := (hS0 5 _ rfl).1
  have la0_5 : gw_ln S (a0 + 5) = 2 := (hS0 5 _ rfl).2.1
  have ka0_6 : gw_kd S (a0 + 6) = 12 := (hS0 6 _ rfl).1
  have la0_6 : gw_ln S (a0 + 6) = 24 := (hS0 6 _ rfl).2.1
  have ka0_7 : gw_kd S (a0 + 7) = 12 := (hS0 7 _ rfl).1
  have la0_7 : gw_ln S (a0 + 7) = 24 := (hS0 7 _ rfl).2.1
  have ka0_8 : gw_kd S (a0 + 8) = 12 := (hS0 8 _ rfl).1
  have la0_8 : gw_ln S (a0 + 8) = 4 := (hS0 8 _ rfl).2.1
  have ka0_9 : gw_kd S (a0 + 9) = 12 := (hS0 9 _ rfl).1
  have la0_9 : gw_ln S (a0 + 9) = 2 := (hS0 9 _ rfl).2.1
  have kp1_0 : gw_kd S p1 = 2 := (hpp1 0 _ rfl).1
  have rp1_0_0 : gw_rf S p1 0 = p1 + 1 := (hpp1 0 _ rfl).2.2 (0, 1) (by decide)
  have rp1_0_1 : gw_rf S p1 1 = p1 + 2 := (hpp1 0 _ rfl).2.2 (1, 2) (by decide)
  have rp1_0_10 : gw_rf S p1 10 = p1 + 7 := (hpp1 0 _ rfl).2.2 (10, 7) (by decide)
  have rp1_0_11 : gw_rf S p1 11 = p1 + 8 := (hpp1 0 _ rfl).2.2 (11, 8) (by decide)
  have rp1_0_12 : gw_rf S p1 12 = p1 + 9 := (hpp1 0 _ rfl).2.2 (12, 9) (by decide)
  have rp1_0_13 : gw_rf S p1 13 = p1 + 10 := (hpp1 0 _ rfl).2.2 (13, 10) (by decide)
  have rp1_0_14 : gw_rf S p1 14 = p1 + 11 := (hpp1 0 _ rfl).2.2 (14, 11) (by decide)
  have rp1_0_2 : gw_rf S p1 2 = p1 + 3 := (hpp1 0 _ rfl).2.2 (2, 3) (by decide)
  have rp1_0_3 : gw_rf S p1 3 = p1 + 4 := (hpp1 0 _ rfl).2.2 (3, 4) (by decide)
  have rp1_0_4 : gw_rf S p1 4 = p1 + 5 := (hpp1 0 _ rfl).2.2 (4, 5) (by decide)
  have rp1_0_7 : gw_rf S p1 7 = p1 + 6 := (hpp1 0 _ rfl).2.2 (7, 6) (by decide)
  have kp1_1 : gw_kd S (p1 + 1) = 12 := (hpp1 1 _ rfl).1
  have lp1_1 : gw_ln S (p1 + 1) = 24 := (hpp1 1 _ rfl).2.1
  have kp1_10 : gw_kd S (p1 + 10) = 12 := (hpp1 10 _ rfl).1
  have lp1_10 : gw_ln S (p1 + 10) = 2 := (hpp1 10 _ rfl).2.1
  have kp1_11 : gw_kd S (p1 + 11) = 12 := (hpp1 11 _ rfl).1
  have lp1_11 : gw_ln S (p1 + 11) = 2 := (hpp1 11 _ rfl).2.1
  have kp1_2 : gw_kd S (p1 + 2) = 12 := (hpp1 2 _ rfl).1
  have lp1_2 : gw_ln S (p1 + 2) = 24 := (hpp1 2 _ rfl).2.1
  have kp1_3 : gw_kd S (p1 + 3) = 12 := (hpp1 3 _ rfl).1
  have lp1_3 : gw_ln S (p1 + 3) = 24 := (hpp1 3 _ rfl).2.1
  have kp1_4 : gw_kd S (p1 + 4) = 12 := (hpp1 4 _ rfl).1
  have lp1_4 : gw_ln S (p1 + 4) = 24 := (hpp1 4 _ rfl).2.1
  have kp1_5 : gw_kd S (p1 + 5) = 12 := (hpp1 5 _ rfl).1
  have lp1_5 : gw_ln S (p1 + 5) = 2 := (hpp1 5 _ rfl).2.1
  have kp1_6 : gw_kd S (p1 + 6) = 12 := (hpp1 6 _ rfl).1
  have lp1_6 : gw_ln S (p1 + 6) = 24 := (hpp1 6 _ rfl).2.1
  have kp1_7 : gw_kd S (p1 + 7) = 12 := (hpp1 7 _ rfl).1
  have lp1_7 : gw_ln S (p1 + 7) = 24 := (hpp1 7 _ rfl).2.1
  have kp1_8 : gw_kd S (p1 + 8) = 12 := (hpp1 8 _ rfl).1
  have lp1_8 : gw_ln S (p1 + 8) = 4 := (hpp1 8 _ rfl).2.1
  have kp1_9 : gw_kd S (p1 + 9) = 12 := (hpp1 9 _ rfl).1
  have lp1_9 : gw_ln S (p1 + 9) = 2 := (hpp1 9 _ rfl).2.1
  unfold F_X2_copyFrom at h
  refine hK _ _ _ _ _ _ _ ?_
  rw [fdX2_copyFrom_0]
  simp only [gt_nil, true_and, eq_self, gt_aload_n, gt_rfk, gw_nth, gt_get_r, gt_get_i, gt_get_z, gt_iconst, gt_bipush, gt_s1_0, gt_s2_0, gt_s3_0, gt_s4_0, gt_s1_1, gt_s2_1, gt_s3_1, gt_s4_1, gt_acpy, gt_alen, true_or, or_true, gt_put_i, gt_putz, gt_vret, bkX2_copyFrom_0, ka0_0, ra0_0_0, ra0_0_1, ra0_0_10, ra0_0_11, ra0_0_12, ra0_0_13, ra0_0_14, ra0_0_2, ra0_0_3, ra0_0_4, ra0_0_7, ka0_1, la0_1, ka0_10, la0_10, ka0_11, la0_11, ka0_2, la0_2, ka0_3, la0_3, ka0_4, la0_4, ka0_5, la0_5, ka0_6, la0_6, ka0_7, la0_7, ka0_8, la0_8, ka0_9, la0_9, kp1_0, rp1_0_0, rp1_0_1, rp1_0_10, rp1_0_11, rp1_0_12, rp1_0_13, rp1_0_14, rp1_0_2, rp1_0_3, rp1_0_4, rp1_0_7, kp1_1, lp1_1, kp1_10, lp1_10, kp1_11, lp1_11, kp1_2, lp1_2, kp1_3, lp1_3, kp1_4, lp1_4, kp1_5, lp1_5, kp1_6, lp1_6, kp1_7, lp1_7, kp1_8, lp1_8, kp1_9, lp1_9, (show Int32.ofNat 2 = 2 from rfl), (show Int32.ofNat 24 = 24 from rfl), (show Int32.ofNat 4 = 4 from rfl), (show Int32.toNatClampNeg 0 = 0 from rfl), (show Int32.toNatClampNeg 2 = 2 from rfl), (show Int32.toNatClampNeg 24 = 24 from rfl), (show Int32.toNatClampNeg 4 = 4 from rfl)]
  refine ⟨by decide, by decide, by decide, by decide, by decide, ?_⟩
  obtain ⟨μ_1, hμ_1, h⟩ := gw_lt h
  try rw [← hμ_1]
  refine ⟨by decide, by decide, by decide, by decide, by decide, ?_⟩
  obtain ⟨μ_2, hμ_2, h⟩ := gw_lt h
  try rw [← hμ_2]
  refine ⟨by decide, by decide, by decide, by decide, by decide, ?_⟩
  obtain ⟨μ_3, hμ_3, h⟩ := gw_lt h
  try rw [← hμ_3]
  refine ⟨by decide, by decide, by decide, by decide, by decide, ?_⟩
  obtain ⟨μ_4, hμ_4, h⟩ := gw_lt h
  try rw [← hμ_4]
  refine ⟨by decide, by decide, by decide, by decide, by decide, ?_⟩
  obtain ⟨μ_5, hμ_5, h⟩ := gw_lt h
  try rw [← hμ_5]
  obtain ⟨μ_6, hμ_6, h⟩ := gw_lt h
  try rw [← hμ_6]
  obtain ⟨μ_7, hμ_7, h⟩ := gw_lt h
  try rw [← hμ_7]
  refine ⟨by decide, by decide, by decide, by decide, by decide, ?_⟩
  obtain ⟨μ_8, hμ_8, h⟩ := gw_lt h
  try rw [← hμ_8]
  obtain ⟨μ_9, hμ_9, h⟩ := gw_lt h
  try rw [← hμ_9]
  obtain ⟨μ_10, hμ_10, h⟩ := gw_lt h
  try rw [← hμ_10]
  refine ⟨by decide, by decide, by decide, by decide, by decide, ?_⟩
  obtain ⟨μ_11, hμ_11, h⟩ := gw_lt h
  try rw [← hμ_11]
  refine ⟨by decide, by decide, by decide, by decide, by decide, ?_⟩
  obtain ⟨μ_12, hμ_12, h⟩ := gw_lt h
  try rw [← hμ_12]
  refine ⟨by decide, by decide, by decide, by decide, by decide, ?_⟩
  obtain ⟨μ_13, hμ_13, h⟩ := gw_lt h
  try rw [← hμ_13]
  refine ⟨by decide, by decide, by decide, by decide, by decide, ?_⟩
  obtain ⟨μ_14, hμ_14, h⟩ := gw_lt h
  try rw [← hμ_14]
  refine ⟨by decide, by decide, by decide, by decide, by decide, ?_⟩
  obtain ⟨μ_15, hμ_15, h⟩ := gw_lt h
  try rw [← hμ_15]
  cases h
  exact ⟨Nat.le_refl _, Nat.le_refl _, hq⟩
def F_X2_allExits (n0 : Nat) (a0 : Nat) (μ : gw_M) : Option (Int32 × gw_M) := some (((μ (a0 + 5) 0) + (μ (a0 + 5) 1)), μ)
theorem ok_X2_allExits {l : Launch} {x : gw_C} {d : Nat} {S : gw_S} {Q : Option Value → gw_S → gw_M → Prop} {a0 : Nat} {n0 : Nat} {μ : gw_M} {r μ'} (hS0 : gw_sh S 2 a0) (h : F_X2_allExits n0 a0 μ = some (r, μ')) (hq : Q (some (.int r)) S μ') : gw_ok l x (d + 1) sgX2_allExits 0 0 [.ref a0] S μ Q := by
  refine gw_ok_of stX2_allExits (lv0 := [.ref a0]) (Nat.le_of_ble_eq_true rfl) rfl rfl ?_
  intro K hK
  have ka0_0 : gw_kd S a0 = 2 := (hS0 0 _ rfl).1
  have ra0_0_4 : gw_rf S a0 4 = a0 + 5 := (hS0 0 _ rfl).2.2 (4, 5) (by decide)
  have ka0_5 : gw_kd S (a0 + 5) = 12 := (hS0 5 _ rfl).1
  have la0_5 : gw_ln S (a0 + 5) = 2 := (hS0 5 _ rfl).2.1
  unfold F_X2_allExits at h
  refine hK _ _ _ _ _ _ _ ?_
  rw [fdX2_allExits_0]
  simp only [gt_nil, true_and, eq_self, gt_aload_n, gt_rfk, gw_nth, gt_get_r, gt_get_i, gt_get_z, gt_iconst, gt_iaload, gt_iadd, gt_iret, gt_retz, bkX2_allExits_0, ka0_0, ra0_0_4, ka0_5, la0_5, (show Int32.toNatClampNeg 0 = 0 from rfl), (show Int32.toNatClampNeg 1 = 1 from rfl)]
  refine ⟨(by decide : gw_in 0 2), ?_⟩
  refine ⟨(by decide : gw_in 1 2), ?_⟩
  cases h
  exact ⟨Nat.le_refl _, Nat.le_refl _, hq⟩
def F_J9_min_7cf53 (n0 : Nat) (v0 : Int32) (v1 : Int32) (μ : gw_M) : Option (Int32 × gw_M) := (if v1 < v0 then some (v1, μ) else some (v0, μ))
theorem ok_J9_min_7cf53 {l : Launch} {x : gw_C} {d : Nat} {S : gw_S} {Q : Option Value → gw_S → gw_M → Prop} {v0 v1 : Int32} {n0 : Nat} {μ : gw_M} {r μ'} (h : F_J9_min_7cf53 n0 v0 v1 μ = some (r, μ')) (hq : Q (some (.int r)) S μ') : gw_ok l x (d + 1) sgJ9_min_7cf53 0 0 [.int v0, .int v1] S μ Q := by
  refine gw_ok_of stJ9_min_7cf53 (lv0 := [.int v0, .int v1]) (Nat.le_of_ble_eq_true rfl) rfl rfl ?_
  intro K hK
  unfold F_J9_min_7cf53 at h
  refine hK _ _ _ _ _ _ _ ?_
  rw [fdJ9_min_7cf53_0]
  simp only [gt_nil, true_and, eq_self, gt_iload_n, gt_ink, gw_nth, gt_icmp, gt_goto, bkJ9_min_7cf53_0]
  refine ⟨fun c_1 => ?_, fun c_1 => ?_⟩
  · replace h := gw_ifp h c_1
    refine hK _ _ _ _ _ _ _ ?_
    rw [fdJ9_min_7cf53_9]
    simp only [gt_nil, true_and, eq_self, gt_iload_n, gt_ink, gw_nth, bkJ9_min_7cf53_9]
    refine hK _ _ _ _ _ _ _ ?_
    rw [fdJ9_min_7cf53_10]
    simp only [gt_nil, true_and, eq_self, gt_iret, gt_retz, bkJ9_min_7cf53_10]
    cases h
    exact ⟨Nat.le_refl _, Nat.le_refl _, hq⟩
  · replace h := gw_ifn h c_1
    refine hK _ _ _ _ _ _ _ ?_
    rw [fdJ9_min_7cf53_10]
    simp only [gt_nil, true_and, eq_self, gt_iret, gt_retz, bkJ9_min_7cf53_10]
    cases h
    exact ⟨Nat.le_refl _, Nat.le_refl _, hq⟩
def F_X2_exitsKept (n0 : Nat) (a0 : Nat) (μ : gw_M) : Option (Int32 × gw_M) := (F_X2_allExits n0 a0 μ).bind (fun (z_4 : Int32 × gw_M) => (F_J9_min_7cf53 n0 z_4.1 24 z_4.2).bind (fun (z_8 : Int32 × gw_M) => some (z_8.1, z_8.2)))
theorem ok_X2_exitsKept {l : Launch} {x : gw_C} {d : Nat} {S : gw_S} {Q : Option Value → gw_S → gw_M → Prop} {a0 : Nat} {n0 : Nat} {μ : gw_M} {r μ'} (hS0 : gw_sh S 2 a0) (h : F_X2_exitsKept n0 a0 μ = some (r, μ')) (hq : Q (some (.int r)) S μ') : gw_ok l x (d + 2) sgX2_exitsKept 0 0 [.ref a0] S μ Q := by
  refine gw_ok_of stX2_exitsKept (lv0 := [.ref a0]) (Nat.le_of_ble_eq_true rfl) rfl rfl ?_
  intro K hK
  have ka0_0 : gw_kd S a0 = 2 := (hS0 0 _ rfl).1
  unfold F_X2_exitsKept at h
  refine hK _ _ _ _ _ _ _ ?_
  rw [fdX2_exitsKept_0]
  simp only [gt_nil, true_and, eq_self, gt_aload_n, gt_rfk, gw_nth, gt_v0, gt_v1, gt_v2, gt_v3, gt_v4, gt_v5, gt_bipush, gt_s1_0, gt_s2_0, gt_s3_0, gt_s4_0, gt_s1_1, gt_s2_1, gt_s3_1, gt_s4_1, gt_acpy, gt_iret, gt_retz, bkX2_exitsKept_0, ka0_0]
  obtain ⟨⟨r_1, μ_2⟩, e_3, h⟩ := gw_bnd h
  refine ⟨rfl, 0, 0, Nat.le_refl _, Nat.le_refl _, ok_X2_allExits hS0 e_3 ?_⟩
  dsimp only at h
  simp only [gt_nil, true_and, eq_self, gt_bipush, gt_s1_0, gt_s2_0, gt_s3_0, gt_s4_0, gt_s1_1, gt_s2_1, gt_s3_1, gt_s4_1, gt_acpy, gt_iret, gt_retz, Option.toList, List.cons_append, List.nil_append, Nat.add_zero, ka0_0]
  obtain ⟨⟨r_5, μ_6⟩, e_7, h⟩ := gw_bnd h
  refine ⟨rfl, 0, 0, Nat.le_refl _, Nat.le_refl _, ok_J9_min_7cf53 e_7 ?_⟩
  dsimp only at h
  simp only [gt_nil, true_and, eq_self, gt_iret, gt_retz, Option.toList, List.cons_append, List.nil_append, Nat.add_zero, ka0_0]
  cases h
  exact ⟨Nat.le_refl _, Nat.le_refl _, hq⟩
def F_X2_writeExit (n0 : Nat) (a0 : Nat) (v1 : Int32) (v2 : Int32) (v3 : Int32) (v4 : Int32) (μ : gw_M) : Option (gw_M) := gw_let ((((μ (a0 + 5) 0) + (μ (a0 + 5) 1)) - ((μ (a0 + 5) 0) + (μ (a0 + 5) 1)) / (24 : Int32) * (24 : Int32))) (fun (w_1 : Int32) => (if 0 ≤ w_1 ∧ w_1.toNatClampNeg < 24 then gw_let (gw_up μ (a0 + 1) w_1.toNatClampNeg v1) (fun (μ_3 : gw_M) => (if 0 ≤ w_1 ∧ w_1.toNatClampNeg < 24 then gw_let (gw_up μ_3 (a0 + 2) w_1.toNatClampNeg v2) (fun (μ_5 : gw_M) => (if 0 ≤ w_1 ∧ w_1.toNatClampNeg < 24 then gw_let (gw_up μ_5 (a0 + 3) w_1.toNatClampNeg v3) (fun (μ_7 : gw_M) => (if 0 ≤ w_1 ∧ w_1.toNatClampNeg < 24 then gw_let (gw_up μ_7 (a0 + 4) w_1.toNatClampNeg v4) (fun (μ_9 : gw_M) => (if 0 ≤ v1 ∧ v1.toNatClampNeg < 2 then (if 0 ≤ v1 ∧ v1.toNatClampNeg < 2 then gw_let (gw_up μ_9 (a0 + 5) v1.toNatClampNeg ((μ_9 (a0 + 5) v1.toNatClampNeg) + (1 : Int32))) (fun (μ_12 : gw_M) => (if ¬ v1 = 1 then some μ_12 else gw_let (gw_up μ_12 a0 5 v2) (fun (μ_14 : gw_M) => gw_let (gw_up μ_14 a0 6 v3) (fun (μ_15 : gw_M) => some μ_15)))) else none) else none)) else none)) else none)) else none)) else none))
theorem ok_X2_writeExit {l : Launch} {x : gw_C} {d : Nat} {S : gw_S} {Q : Option Value → gw_S → gw_M → Prop} {v1 v2 v3 v4 : Int32} {a0 : Nat} {n0 : Nat} {μ : gw_M} {μ'} (hS0 : gw_sh S 2 a0) (h : F_X2_writeExit n0 a0 v1 v2 v3 v4 μ = some μ') (hq : Q none S μ') : gw_ok l x (d + 1) sgX2_writeExit 0 0 [.ref a0, .int v1, .int v2, .int v3, .int v4] S μ Q := by
  refine gw_ok_of stX2_writeExit (lv0 := [.ref a0, .int v1, .int v2, .int v3, .int v4, .retAddr 0]) (Nat.le_of_ble_eq_true rfl) rfl rfl ?_
  intro K hK
  have ka0_0 : gw_kd S a0 = 2 := (hS0 0 _ rfl).1
  have ra0_0_0 : gw_rf S a0 0 = a0 + 1 := (hS0 0 _ rfl).2.2 (0, 1) (by decide)
  have ra0_0_1 : gw_rf S a0 1 = a0 + 2 := (hS0 0 _ rfl).2.2 (1, 2) (by decide)
  have ra0_0_2 : gw_rf S a0 2 = a0 + 3 := (hS0 0 _ rfl).2.2 (2, 3) (by decide)
  have ra0_0_3 : gw_rf S a0 3 = a0 + 4 := (hS0 0 _ rfl).2.2 (3, 4) (by decide)
  have ra0_0_4 : gw_rf S a0 4 = a0 + 5 := (hS0 0 _ rfl).2.2 (4, 5) (by decide)
  have ka0_1 : gw_kd S (a0 + 1) = 12 := (hS0 1 _ rfl).1
  have la0_1 : gw_ln S (a0 + 1) = 24 := (hS0 1 _ rfl).2.1
  have ka0_2 : gw_kd S (a0 + 2) = 12 := (hS0 2 _ rfl).1
  have la0_2 : gw_ln S (a0 + 2) = 24 := (hS0 2 _ rfl).2.1
  have ka0_3 : gw_kd S (a0 + 3) = 12 := (hS0 3 _ rfl).1
  have la0_3 : gw_ln S (a0 + 3) = 24 := (hS0 3 _ rfl).2.1
  have ka0_4 : gw_kd S (a0 + 4) = 12 := (hS0 4 _ rfl).1
  have la0_4 : gw_ln S (a0 + 4) = 24 := (hS0 4 _ rfl).2.1
  have ka0_5 : gw_kd S (a0 + 5) = 12 := (hS0 5 _ rfl).1
  have la0_5 : gw_ln S (a0 + 5) = 2 := (hS0 5 _ rfl).2.1
  unfold F_X2_writeExit at h
  refine hK _ _ _ _ _ _ _ ?_
  rw [fdX2_writeExit_0]
  simp only [gt_nil, true_and, eq_self, gt_aload_n, gt_rfk, gw_nth, gt_get_r, gt_get_i, gt_get_z, gt_iconst, gt_iaload, gt_iadd, gt_bipush, gt_irem, gt_istore, gw_set, gt_iload, gt_ink, gt_iload_n, gt_iastore, gt_dup2, gt_icmp, gt_put_i, gt_putz, bkX2_writeExit_0, ka0_0, ra0_0_0, ra0_0_1, ra0_0_2, ra0_0_3, ra0_0_4, ka0_1, la0_1, ka0_2, la0_2, ka0_3, la0_3, ka0_4, la0_4, ka0_5, la0_5, (show Int32.toNatClampNeg 0 = 0 from rfl), (show Int32.toNatClampNeg 1 = 1 from rfl)]
  refine ⟨(by decide : gw_in 0 2), ?_⟩
  refine ⟨(by decide : gw_in 1 2), ?_⟩
  refine ⟨by decide, ?_⟩
  obtain ⟨w_1, hw_1, h⟩ := gw_lt h
  try rw [← hw_1]
  obtain ⟨c_2, h⟩ := gw_ife h
  refine ⟨c_2, ?_⟩
  obtain ⟨μ_3, hμ_3, h⟩ := gw_lt h
  try rw [← hμ_3]
  obtain ⟨c_4, h⟩ := gw_ife h
  refine ⟨c_4, ?_⟩
  obtain ⟨μ_5, hμ_5, h⟩ := gw_lt h
  try rw [← hμ_5]
  obtain ⟨c_6, h⟩ := gw_ife h
  refine ⟨c_6, ?_⟩
  obtain ⟨μ_7, hμ_7, h⟩ := gw_lt h
  try rw [← hμ_7]
  obtain ⟨c_8, h⟩ := gw_ife h
  refine ⟨c_8, ?_⟩
  obtain ⟨μ_9, hμ_9, h⟩ := gw_lt h
  try rw [← hμ_9]
  obtain ⟨c_10, h⟩ := gw_ife h
  refine ⟨c_10, ?_⟩
  obtain ⟨c_11, h⟩ := gw_ife h
  refine ⟨c_11, ?_⟩
  obtain ⟨μ_12, hμ_12, h⟩ := gw_lt h
  try rw [← hμ_12]
  refine ⟨fun c_13 => ?_, fun c_13 => ?_⟩
  · replace h := gw_ifp h c_13
    refine hK _ _ _ _ _ _ _ ?_
    rw [fdX2_writeExit_76]
    simp only [gt_nil, true_and, eq_self, gt_vret, bkX2_writeExit_76, ka0_0, ra0_0_0, ra0_0_1, ra0_0_2, ra0_0_3, ra0_0_4, ka0_1, la0_1, ka0_2, la0_2, ka0_3, la0_3, ka0_4, la0_4, ka0_5, la0_5, (show Int32.toNatClampNeg 0 = 0 from rfl), (show Int32.toNatClampNeg 1 = 1 from rfl)]
    cases h
    exact ⟨Nat.le_refl _, Nat.le_refl _, hq⟩
  · replace h := gw_ifn h c_13
    obtain ⟨μ_14, hμ_14, h⟩ := gw_lt h
    try rw [← hμ_14]
    obtain ⟨μ_15, hμ_15, h⟩ := gw_lt h
    try rw [← hμ_15]
    refine hK _ _ _ _ _ _ _ ?_
    rw [fdX2_writeExit_76]
    simp only [gt_nil, true_and, eq_self, gt_vret, bkX2_writeExit_76, ka0_0, ra0_0_0, ra0_0_1, ra0_0_2, ra0_0_3, ra0_0_4, ka0_1, la0_1, ka0_2, la0_2, ka0_3, la0_3, ka0_4, la0_4, ka0_5, la0_5, (show Int32.toNatClampNeg 0 = 0 from rfl), (show Int32.toNatClampNeg 1 = 1 from rfl)]
    cases h
    exact ⟨Nat.le_refl _, Nat.le_refl _, hq⟩
def F_X10_within_14 (n0 : Nat) (μ : gw_M) : Option (Int32 × gw_M) := some (0, μ)
def F_X10_within (n0 : Nat) (v0 : Int32) (v1 : Int32) (v2 : Int32) (μ : gw_M) : Option (Int32 × gw_M) := (if v0 < v1 then F_X10_within_14 n0 μ else (if v2 < v0 then F_X10_within_14 n0 μ else some (1, μ)))
theorem B_X10_within_14 {l : Launch} {x : gw_C} {d : Nat} {S : gw_S} {Q : Option Value → gw_S → gw_M → Prop} {K : Nat → gw_Kt} (hK : gw_cl l x (d + 0) bsX10_within Q K) {n0 : Nat}  {u0 u1 u2 : Value} {μ : gw_M} {r μ'} (h : F_X10_within_14 n0 μ = some (r, μ')) (hq : ((r = 0 ∨ r = 1) → Q (some (.int r)) S μ')) : K 14 [u0, u1, u2] [] S μ 0 0 := by
  unfold F_X10_within_14 at h
  refine hK _ _ _ _ _ _ _ ?_
  rw [fdX10_within_14]
  simp only [gt_nil, true_and, eq_self, gt_iconst, bkX10_within_14]
  refine hK _ _ _ _ _ _ _ ?_
  rw [fdX10_within_15]
  simp only [gt_nil, true_and, eq_self, gt_iret, gt_retz, bkX10_within_15]
  cases h
  exact ⟨(Or.inl rfl), Nat.le_refl _, Nat.le_refl _, hq (Or.inl rfl)⟩
theorem ok_X10_within {l : Launch} {x : gw_C} {d : Nat} {S : gw_S} {Q : Option Value → gw_S → gw_M → Prop} {v0 v1 v2 : Int32} {n0 : Nat} {μ : gw_M} {r μ'} (h : F_X10_within n0 v0 v1 v2 μ = some (r, μ')) (hq : ((r = 0 ∨ r = 1) → Q (some (.int r)) S μ')) : gw_ok l x (d + 1) sgX10_within 0 0 [.int v0, .int v1, .int v2] S μ Q := by
  refine gw_ok_of stX10_within (lv0 := [.int v0, .int v1, .int v2]) (Nat.le_of_ble_eq_true rfl) rfl rfl ?_
  intro K hK
  unfold F_X10_within at h
  refine hK _ _ _ _ _ _ _ ?_
  rw [fdX10_within_0]
  simp only [gt_nil, true_and, eq_self, gt_iload_n, gt_ink, gw_nth, gt_icmp, gt_iconst, gt_goto, bkX10_within_0]
  refine ⟨fun c_1 => ?_, fun c_1 => ?_⟩
  · replace h := gw_ifp h c_1
    exact B_X10_within_14 hK h hq
  · replace h := gw_ifn h c_1
    refine ⟨fun c_2 => ?_, fun c_2 => ?_⟩
    · replace h := gw_ifp h c_2
      exact B_X10_within_14 hK h hq
    · replace h := gw_ifn h c_2
      refine hK _ _ _ _ _ _ _ ?_
      rw [fdX10_within_15]
      simp only [gt_nil, true_and, eq_self, gt_iret, gt_retz, bkX10_within_15]
      cases h
      exact ⟨(Or.inr rfl), Nat.le_refl _, Nat.le_refl _, hq (Or.inr rfl)⟩
def F_X2_exitAt (n0 : Nat) (a0 : Nat) (v1 : Int32) (v2 : Int32) (μ : gw_M) : Option (Int32 × gw_M) := (F_X2_exitsKept n0 a0 μ).bind (fun (z_4 : Int32 × gw_M) => (F_X10_within n0 v1 0 (z_4.1 - (1 : Int32)) z_4.2).bind (fun (z_8 : Int32 × gw_M) => (if ¬ z_8.1 = 0 then (F_X2_allExits n0 a0 z_8.2).bind (fun (z_13 : Int32 × gw_M) => (F_X2_exitsKept n0 a0 z_13.2).bind (fun (z_17 : Int32 × gw_M) => gw_let ((((z_13.1 - z_17.1) + v1) - ((z_13.1 - z_17.1) + v1) / (24 : Int32) * (24 : Int32))) (fun (w_18 : Int32) => (if v2 = (0 : Int32) then (if 0 ≤ w_18 ∧ w_18.toNatClampNeg < 24 then some ((z_17.2 (a0 + 1) w_18.toNatClampNeg), z_17.2) else none) else (if v2 = ((0 : Int32) + 1) then (if 0 ≤ w_18 ∧ w_18.toNatClampNeg < 24 then some ((z_17.2 (a0 + 2) w_18.toNatClampNeg), z_17.2) else none) else (if v2 = (((0 : Int32) + 1) + 1) then (if 0 ≤ w_18 ∧ w_18.toNatClampNeg < 24 then some ((z_17.2 (a0 + 3) w_18.toNatClampNeg), z_17.2) else none) else (if v2 = ((((0 : Int32) + 1) + 1) + 1) then (if 0 ≤ w_18 ∧ w_18.toNatClampNeg < 24 then some ((z_17.2 (a0 + 4) w_18.toNatClampNeg), z_17.2) else none) else some ((-2), z_17.2)))))))) else some ((-2), z_8.2))))
theorem ok_X2_exitAt {l : Launch} {x : gw_C} {d : Nat} {S : gw_S} {Q : Option Value → gw_S → gw_M → Prop} {v1 v2 : Int32} {a0 : Nat} {n0 : Nat} {μ : gw_M} {r μ'} (hS0 : gw_sh S 2 a0) (h : F_X2_exitAt n0 a0 v1 v2 μ = some (r, μ')) (hq : Q (some (.int r)) S μ') : gw_ok l x (d + 3) sgX2_exitAt 0 0 [.ref a0, .int v1, .int v2] S μ Q := by
  refine gw_ok_of stX2_exitAt (lv0 := [.ref a0, .int v1, .int v2, .retAddr 0]) (Nat.le_of_ble_eq_true rfl) rfl rfl ?_
  intro K hK
  have ka0_0 : gw_kd S a0 = 2 := (hS0 0 _ rfl).1
  have ra0_0_0 : gw_rf S a0 0 = a0 + 1 := (hS0 0 _ rfl).2.2 (0, 1) (by decide)
  have ra0_0_1 : gw_rf S a0 1 = a0 + 2 := (hS0 0 _ rfl).2.2 (1, 2) (by decide)
  have ra0_0_2 : gw_rf S a0 2 = a0 + 3 := (hS0 0 _ rfl).2.2 (2, 3) (by decide)
  have ra0_0_3 : gw_rf S a0 3 = a0 + 4 := (hS0 0 _ rfl).2.2 (3, 4) (by decide)
  have ka0_1 : gw_kd S (a0 + 1) = 12 := (hS0 1 _ rfl).1
  have la0_1 : gw_ln S (a0 + 1) = 24 := (hS0 1 _ rfl).2.1
  have ka0_2 : gw_kd S (a0 + 2) = 12 := (hS0 2 _ rfl).1
  have la0_2 : gw_ln S (a0 + 2) = 24 := (hS0 2 _ rfl).2.1
  have ka0_3 : gw_kd S (a0 + 3) = 12 := (hS0 3 _ rfl).1
  have la0_3 : gw_ln S (a0 + 3) = 24 := (hS0 3 _ rfl).2.1
  have ka0_4 : gw_kd S (a0 + 4) = 12 := (hS0 4 _ rfl).1
  have la0_4 : gw_ln S (a0 + 4) = 24 := (hS0 4 _ rfl).2.1
  unfold F_X2_exitAt at h
  refine hK _ _ _ _ _ _ _ ?_
  rw [fdX2_exitAt_0]
  simp only [gt_nil, true_and, eq_self, gt_iload_n, gt_ink, gw_nth, gt_iconst, gt_aload_n, gt_rfk, gt_v0, gt_v1, gt_v2, gt_v3, gt_v4, gt_v5, gt_isub, gt_s1_0, gt_s2_0, gt_s3_0, gt_s4_0, gt_s1_1, gt_s2_1, gt_s3_1, gt_s4_1, gt_acpy, gt_if, gt_bipush, gt_iret, gt_retz, bkX2_exitAt_0, ka0_0, ra0_0_0, ra0_0_1, ra0_0_2, ra0_0_3, ka0_1, la0_1, ka0_2, la0_2, ka0_3, la0_3, ka0_4, la0_4]
  obtain ⟨⟨r_1, μ_2⟩, e_3, h⟩ := gw_bnd h
  refine ⟨rfl, 0, 0, Nat.le_refl _, Nat.le_refl _, ok_X2_exitsKept hS0 e_3 ?_⟩
  dsimp only at h
  simp only [gt_nil, true_and, eq_self, gt_iconst, gt_isub, gt_s1_0, gt_s2_0, gt_s3_0, gt_s4_0, gt_s1_1, gt_s2_1, gt_s3_1, gt_s4_1, gt_acpy, gt_if, gt_bipush, gt_iret, gt_retz, Option.toList, List.cons_append, List.nil_append, Nat.add_zero, ka0_0, ra0_0_0, ra0_0_1, ra0_0_2, ra0_0_3, ka0_1, la0_1, ka0_2, la0_2, ka0_3, la0_3, ka0_4, la0_4]
  obtain ⟨⟨r_5, μ_6⟩, e_7, h⟩ := gw_bnd h
  refine ⟨rfl, 0, 0, Nat.le_refl _, Nat.le_refl _, ok_X10_within e_7 ?_⟩
  intro hbr_5
  dsimp only at h
  simp only [gt_nil, true_and, eq_self, gt_if, gt_bipush, gt_iret, gt_retz, Option.toList, List.cons_append, List.nil_append, Nat.add_zero, ka0_0, ra0_0_0, ra0_0_1, ra0_0_2, ra0_0_3, ka0_1, la0_1, ka0_2, la0_2, ka0_3, la0_3, ka0_4, la0_4]
  refine ⟨fun c_9 => ?_, fun c_9 => ?_⟩
  · replace h := gw_ifp h c_9
    refine hK _ _ _ _ _ _ _ ?_
    rw [fdX2_exitAt_17]
    simp only [gt_nil, true_and, eq_self, gt_aload_n, gt_rfk, gw_nth, gt_v0, gt_v1, gt_v2, gt_v3, gt_v4, gt_v5, gt_isub, gt_iload_n, gt_ink, gt_iadd, gt_bipush, gt_irem, gt_istore_n, gw_set, gt_tsw, gw_sw, bkX2_exitAt_17, ka0_0, ra0_0_0, ra0_0_1, ra0_0_2, ra0_0_3, ka0_1, la0_1, ka0_2, la0_2, ka0_3, la0_3, ka0_4, la0_4]
    obtain ⟨⟨r_10, μ_11⟩, e_12, h⟩ := gw_bnd h
    refine ⟨rfl, 0, 0, Nat.le_refl _, Nat.le_refl _, ok_X2_allExits hS0 e_12 ?_⟩
    dsimp only at h
    simp only [gt_nil, true_and, eq_self, gt_aload_n, gt_rfk, gw_nth, gt_v0, gt_v1, gt_v2, gt_v3, gt_v4, gt_v5, gt_isub, gt_iload_n, gt_ink, gt_iadd, gt_bipush, gt_irem, gt_istore_n, gw_set, gt_tsw, gw_sw, Option.toList, List.cons_append, List.nil_append, Nat.add_zero, ka0_0, ra0_0_0, ra0_0_1, ra0_0_2, ra0_0_3, ka0_1, la0_1, ka0_2, la0_2, ka0_3, la0_3, ka0_4, la0_4]
    obtain ⟨⟨r_14, μ_15⟩, e_16, h⟩ := gw_bnd h
    refine ⟨rfl, 0, 0, Nat.le_refl _, Nat.le_refl _, ok_X2_exitsKept hS0 e_16 ?_⟩
    dsimp only at h
    simp only [gt_nil, true_and, eq_self, gt_isub, gt_iload_n, gt_ink, gw_nth, gt_iadd, gt_bipush, gt_irem, gt_istore_n, gw_set, gt_tsw, gw_sw, Option.toList, List.cons_append, List.nil_append, Nat.add_zero, ka0_0, ra0_0_0, ra0_0_1, ra0_0_2, ra0_0_3, ka0_1, la0_1, ka0_2, la0_2, ka0_3, la0_3, ka0_4, la0_4]
    refine ⟨by decide, ?_⟩
    obtain ⟨w_18, hw_18, h⟩ := gw_lt h
    try rw [← hw_18]
    refine ⟨fun c_19 => ?_, fun c_19 => ?_⟩
    · replace h := gw_ifp h c_19
      refine hK _ _ _ _ _ _ _ ?_
      rw [fdX2_exitAt_64]
      simp only [gt_nil, true_and, eq_self, gt_aload_n, gt_rfk, gw_nth, gt_get_r, gt_get_i, gt_get_z, gt_iload_n, gt_ink, gt_iaload, gt_iret, gt_retz, bkX2_exitAt_64, ka0_0, ra0_0_0, ra0_0_1, ra0_0_2, ra0_0_3, ka0_1, la0_1, ka0_2, la0_2, ka0_3, la0_3, ka0_4, la0_4]
      obtain ⟨c_20, h⟩ := gw_ife h
      refine ⟨c_20, ?_⟩
      cases h
      exact ⟨Nat.le_refl _, Nat.le_refl _, hq⟩
    replace h := gw_ifn h c_19
    refine ⟨fun c_21 => ?_, fun c_21 => ?_⟩
    · replace h := gw_ifp h c_21
      refine hK _ _ _ _ _ _ _ ?_
      rw [fdX2_exitAt_71]
      simp only [gt_nil, true_and, eq_self, gt_aload_n, gt_rfk, gw_nth, gt_get_r, gt_get_i, gt_get_z, gt_iload_n, gt_ink, gt_iaload, gt_iret, gt_retz, bkX2_exitAt_71, ka0_0, ra0_0_0, ra0_0_1, ra0_0_2, ra0_0_3, ka0_1, la0_1, ka0_2, la0_2, ka0_3, la0_3, ka0_4, la0_4]
      obtain ⟨c_22, h⟩ := gw_ife h
      refine ⟨c_22, ?_⟩
      cases h
      exact ⟨Nat.le_refl _, Nat.le_refl _, hq⟩
    replace h := gw_ifn h c_21
    refine ⟨fun c_23 => ?_, fun c_23 => ?_⟩
    · replace h := gw_ifp h c_23
      refine hK _ _ _ _ _ _ _ ?_
      rw [fdX2_exitAt_78]
      simp only [gt_nil, true_and, eq_self, gt_aload_n, gt_rfk, gw_nth, gt_get_r, gt_get_i, gt_get_z, gt_iload_n, gt_ink, gt_iaload, gt_iret, gt_retz, bkX2_exitAt_78, ka0_0, ra0_0_0, ra0_0_1, ra0_0_2, ra0_0_3, ka0_1, la0_1, ka0_2, la0_2, ka0_3, la0_3, ka0_4, la0_4]
      obtain ⟨c_24, h⟩ := gw_ife h
      refine ⟨c_24, ?_⟩
      cases h
      exact ⟨Nat.le_refl _, Nat.le_refl _, hq⟩
    replace h := gw_ifn h c_23
    refine ⟨fun c_25 => ?_, fun c_25 => ?_⟩
    · replace h := gw_ifp h c_25
      refine hK _ _ _ _ _ _ _ ?_
      rw [fdX2_exitAt_85]
      simp only [gt_nil, true_and, eq_self, gt_aload_n, gt_rfk, gw_nth, gt_get_r, gt_get_i, gt_get_z, gt_iload_n, gt_ink, gt_iaload, gt_iret, gt_retz, bkX2_exitAt_85, ka0_0, ra0_0_0, ra0_0_1, ra0_0_2, ra0_0_3, ka0_1, la0_1, ka0_2, la0_2, ka0_3, la0_3, ka0_4, la0_4]
      obtain ⟨c_26, h⟩ := gw_ife h
      refine ⟨c_26, ?_⟩
      cases h
      exact ⟨Nat.le_refl _, Nat.le_refl _, hq⟩
    replace h := gw_ifn h c_25
    refine hK _ _ _ _ _ _ _ ?_
    rw [fdX2_exitAt_92]
    simp only [gt_nil, true_and, eq_self, gt_bipush, gt_iret, gt_retz, bkX2_exitAt_92, ka0_0, ra0_0_0, ra0_0_1, ra0_0_2, ra0_0_3, ka0_1, la0_1, ka0_2, la0_2, ka0_3, la0_3, ka0_4, la0_4]
    cases h
    exact ⟨Nat.le_refl _, Nat.le_refl _, hq⟩
  · replace h := gw_ifn h c_9
    cases h
    exact ⟨Nat.le_refl _, Nat.le_refl _, hq⟩
def F_X2_exitsBy_25 (rec4 : Int32 → Int32 → Int32 → gw_M → Option (Int32 × gw_M)) (n0 : Nat) (a0 : Nat) (v1 : Int32) (v2 : Int32) (v3 : Int32) (μ : gw_M) : Option (Int32 × gw_M) := gw_let (v3 + 1) (fun (w_1 : Int32) => rec4 v1 v2 w_1 μ)
def F_X2_exitsBy_4 (n0 : Nat) (a0 : Nat) : Nat → Int32 → Int32 → Int32 → gw_M → Option (Int32 × gw_M)
  | 0, _, _, _, _ => none
  | n + 1, v1, v2, v3, μ => (F_X2_exitsKept n0 a0 μ).bind (fun (z_4 : Int32 × gw_M) => (if z_4.1 ≤ v3 then some (v2, z_4.2) else (if 0 ≤ v3 ∧ v3.toNatClampNeg < 24 then (if ¬ (z_4.2 (a0 + 2) v3.toNatClampNeg) = v1 then F_X2_exitsBy_25 (F_X2_exitsBy_4 n0 a0 n) n0 a0 v1 v2 v3 z_4.2 else gw_let (v2 + 1) (fun (w_8 : Int32) => F_X2_exitsBy_25 (F_X2_exitsBy_4 n0 a0 n) n0 a0 v1 w_8 v3 z_4.2)) else none)))
def F_X2_exitsBy (n0 : Nat) (a0 : Nat) (v1 : Int32) (μ : gw_M) : Option (Int32 × gw_M) := F_X2_exitsBy_4 n0 a0 n0 v1 0 0 μ
theorem B_X2_exitsBy_25 {l : Launch} {x : gw_C} {d : Nat} {S : gw_S} {Q : Option Value → gw_S → gw_M → Prop} {K : Nat → gw_Kt} (hK : gw_cl l x (d + 2) bsX2_exitsBy Q K) {a0 : Nat} (hS0 : gw_sh S 2 a0) {rec4 : Int32 → Int32 → Int32 → gw_M → Option (Int32 × gw_M)} (hrec4 : ∀ {v1 v2 v3} {μ : gw_M} {r μ'}, rec4 v1 v2 v3 μ = some (r, μ') → Q (some (.int r)) S μ' → K 4 [.ref a0, .int v1, .int v2, .int v3] [] S μ 0 0) {n0 : Nat} {v1 v2 v3} {μ : gw_M} {r μ'} (h : F_X2_exitsBy_25 rec4 n0 a0 v1 v2 v3 μ = some (r, μ')) (hq : Q (some (.int r)) S μ') : K 25 [.ref a0, .int v1, .int v2, .int v3] [] S μ 0 0 := by
  unfold F_X2_exitsBy_25 at h
  refine hK _ _ _ _ _ _ _ ?_
  rw [fdX2_exitsBy_25]
  simp only [gt_nil, true_and, eq_self, gt_iinc, gt_ink, gw_nth, gw_set, gt_goto, bkX2_exitsBy_25]
  obtain ⟨w_1, hw_1, h⟩ := gw_lt h
  try rw [← hw_1]
  exact hrec4 h hq
theorem B_X2_exitsBy_4 {l : Launch} {x : gw_C} {d : Nat} {S : gw_S} {Q : Option Value → gw_S → gw_M → Prop} {K : Nat → gw_Kt} (hK : gw_cl l x (d + 2) bsX2_exitsBy Q K) {a0 : Nat} (hS0 : gw_sh S 2 a0) {n0 : Nat} : ∀ {n : Nat} {v1 v2 v3} {μ : gw_M} {r μ'}, F_X2_exitsBy_4 n0 a0 n v1 v2 v3 μ = some (r, μ') → Q (some (.int r)) S μ' → K 4 [.ref a0, .int v1, .int v2, .int v3] [] S μ 0 0 := by
  have ka0_0 : gw_kd S a0 = 2 := (hS0 0 _ rfl).1
  have ra0_0_1 : gw_rf S a0 1 = a0 + 2 := (hS0 0 _ rfl).2.2 (1, 2) (by decide)
  have ka0_2 : gw_kd S (a0 + 2) = 12 := (hS0 2 _ rfl).1
  have la0_2 : gw_ln S (a0 + 2) = 24 := (hS0 2 _ rfl).2.1
  intro n
  induction n with
  | zero => intro v1 v2 v3 μ r μ' h hq; simp [F_X2_exitsBy_4] at h
  | succ n ih =>
    intro v1 v2 v3 μ r μ' h hq
    simp only [F_X2_exitsBy_4] at h
    refine hK _ _ _ _ _ _ _ ?_
    rw [fdX2_exitsBy_4]
    simp only [gt_nil, true_and, eq_self, gt_iload_n, gt_ink, gw_nth, gt_aload_n, gt_rfk, gt_v0, gt_v1, gt_v2, gt_v3, gt_v4, gt_v5, gt_icmp, gt_get_r, gt_get_i, gt_get_z, gt_iaload, gt_iinc, gw_set, bkX2_exitsBy_4, ka0_0, ra0_0_1, ka0_2, la0_2]
    obtain ⟨⟨r_1, μ_2⟩, e_3, h⟩ := gw_bnd h
    refine ⟨rfl, 0, 0, Nat.le_refl _, Nat.le_refl _, ok_X2_exitsKept hS0 e_3 ?_⟩
    dsimp only at h
    simp only [gt_nil, true_and, eq_self, gt_icmp, gt_aload_n, gt_rfk, gw_nth, gt_get_r, gt_get_i, gt_get_z, gt_iload_n, gt_ink, gt_iaload, gt_iinc, gw_set, Option.toList, List.cons_append, List.nil_append, Nat.add_zero, ka0_0, ra0_0_1, ka0_2, la0_2]
    refine ⟨fun c_5 => ?_, fun c_5 => ?_⟩
    · replace h := gw_ifp h c_5
      refine hK _ _ _ _ _ _ _ ?_
      rw [fdX2_exitsBy_31]
      simp only [gt_nil, true_and, eq_self, gt_iload_n, gt_ink, gw_nth, gt_iret, gt_retz, bkX2_exitsBy_31, ka0_0, ra0_0_1, ka0_2, la0_2]
      cases h
      exact ⟨Nat.le_refl _, Nat.le_refl _, hq⟩
    · replace h := gw_ifn h c_5
      obtain ⟨c_6, h⟩ := gw_ife h
      refine ⟨c_6, ?_⟩
      refine ⟨fun c_7 => ?_, fun c_7 => ?_⟩
      · replace h := gw_ifp h c_7
        exact B_X2_exitsBy_25 hK hS0 ih h hq
      · replace h := gw_ifn h c_7
        obtain ⟨w_8, hw_8, h⟩ := gw_lt h
        try rw [← hw_8]
        exact B_X2_exitsBy_25 hK hS0 ih h hq
theorem ok_X2_exitsBy {l : Launch} {x : gw_C} {d : Nat} {S : gw_S} {Q : Option Value → gw_S → gw_M → Prop} {v1 : Int32} {a0 : Nat} {n0 : Nat} {μ : gw_M} {r μ'} (hS0 : gw_sh S 2 a0) (h : F_X2_exitsBy n0 a0 v1 μ = some (r, μ')) (hq : Q (some (.int r)) S μ') : gw_ok l x (d + 3) sgX2_exitsBy 0 0 [.ref a0, .int v1] S μ Q := by
  refine gw_ok_of stX2_exitsBy (lv0 := [.ref a0, .int v1, .retAddr 0, .retAddr 0]) (Nat.le_of_ble_eq_true rfl) rfl rfl ?_
  intro K hK
  unfold F_X2_exitsBy at h
  refine hK _ _ _ _ _ _ _ ?_
  rw [fdX2_exitsBy_0]
  simp only [gt_nil, true_and, eq_self, gt_iconst, gt_istore_n, gw_set, bkX2_exitsBy_0]
  exact B_X2_exitsBy_4 hK hS0 h hq
def F_X2_hear (n0 : Nat) (a0 : Nat) (v1 : Int32) (μ : gw_M) : Option (gw_M) := (if 0 ≤ ((μ a0 8) - (μ a0 8) / (24 : Int32) * (24 : Int32)) ∧ ((μ a0 8) - (μ a0 8) / (24 : Int32) * (24 : Int32)).toNatClampNeg < 24 then gw_let (gw_up μ (a0 + 6) ((μ a0 8) - (μ a0 8) / (24 : Int32) * (24 : Int32)).toNatClampNeg v1) (fun (μ_2 : gw_M) => gw_let (gw_up μ_2 a0 8 ((μ_2 a0 8) + (1 : Int32))) (fun (μ_3 : gw_M) => some μ_3)) else none)
theorem ok_X2_hear {l : Launch} {x : gw_C} {d : Nat} {S : gw_S} {Q : Option Value → gw_S → gw_M → Prop} {v1 : Int32} {a0 : Nat} {n0 : Nat} {μ : gw_M} {μ'} (hS0 : gw_sh S 2 a0) (h : F_X2_hear n0 a0 v1 μ = some μ') (hq : Q none S μ') : gw_ok l x (d + 1) sgX2_hear 0 0 [.ref a0, .int v1] S μ Q := by
  refine gw_ok_of stX2_hear (lv0 := [.ref a0, .int v1]) (Nat.le_of_ble_eq_true rfl) rfl rfl ?_
  intro K hK
  have ka0_0 : gw_kd S a0 = 2 := (hS0 0 _ rfl).1
  have ra0_0_7 : gw_rf S a0 7 = a0 + 6 := (hS0 0 _ rfl).2.2 (7, 6) (by decide)
  have ka0_6 : gw_kd S (a0 + 6) = 12 := (hS0 6 _ rfl).1
  have la0_6 : gw_ln S (a0 + 6) = 24 := (hS0 6 _ rfl).2.1
  unfold F_X2_hear at h
  refine hK _ _ _ _ _ _ _ ?_
  rw [fdX2_hear_0]
  simp only [gt_nil, true_and, eq_self, gt_aload_n, gt_rfk, gw_nth, gt_get_r, gt_get_i, gt_get_z, gt_bipush, gt_irem, gt_iload_n, gt_ink, gt_iastore, gt_dup_i, gt_dup_r, gt_iconst, gt_iadd, gt_put_i, gt_putz, gt_vret, bkX2_hear_0, ka0_0, ra0_0_7, ka0_6, la0_6]
  refine ⟨by decide, ?_⟩
  obtain ⟨c_1, h⟩ := gw_ife h
  refine ⟨c_1, ?_⟩
  obtain ⟨μ_2, hμ_2, h⟩ := gw_lt h
  try rw [← hμ_2]
  obtain ⟨μ_3, hμ_3, h⟩ := gw_lt h
  try rw [← hμ_3]
  cases h
  exact ⟨Nat.le_refl _, Nat.le_refl _, hq⟩
def F_X2_heardKept (n0 : Nat) (a0 : Nat) (μ : gw_M) : Option (Int32 × gw_M) := (F_J9_min_7cf53 n0 (μ a0 8) 24 μ).bind (fun (z_4 : Int32 × gw_M) => some (z_4.1, z_4.2))
theorem ok_X2_heardKept {l : Launch} {x : gw_C} {d : Nat} {S : gw_S} {Q : Option Value → gw_S → gw_M → Prop} {a0 : Nat} {n0 : Nat} {μ : gw_M} {r μ'} (hS0 : gw_sh S 2 a0) (h : F_X2_heardKept n0 a0 μ = some (r, μ')) (hq : Q (some (.int r)) S μ') : gw_ok l x (d + 2) sgX2_heardKept 0 0 [.ref a0] S μ Q := by
  refine gw_ok_of stX2_heardKept (lv0 := [.ref a0]) (Nat.le_of_ble_eq_true rfl) rfl rfl ?_
  intro K hK
  have ka0_0 : gw_kd S a0 = 2 := (hS0 0 _ rfl).1
  unfold F_X2_heardKept at h
  refine hK _ _ _ _ _ _ _ ?_
  rw [fdX2_heardKept_0]
  simp only [gt_nil, true_and, eq_self, gt_aload_n, gt_rfk, gw_nth, gt_get_r, gt_get_i, gt_get_z, gt_bipush, gt_s1_0, gt_s2_0, gt_s3_0, gt_s4_0, gt_s1_1, gt_s2_1, gt_s3_1, gt_s4_1, gt_acpy, gt_iret, gt_retz, bkX2_heardKept_0, ka0_0]
  obtain ⟨⟨r_1, μ_2⟩, e_3, h⟩ := gw_bnd h
  refine ⟨rfl, 0, 0, Nat.le_refl _, Nat.le_refl _, ok_J9_min_7cf53 e_3 ?_⟩
  dsimp only at h
  simp only [gt_nil, true_and, eq_self, gt_iret, gt_retz, Option.toList, List.cons_append, List.nil_append, Nat.add_zero, ka0_0]
  cases h
  exact ⟨Nat.le_refl _, Nat.le_refl _, hq⟩
def F_X2_heardAt (n0 : Nat) (a0 : Nat) (v1 : Int32) (μ : gw_M) : Option (Int32 × gw_M) := (F_X2_heardKept n0 a0 μ).bind (fun (z_4 : Int32 × gw_M) => (F_X10_within n0 v1 0 (z_4.1 - (1 : Int32)) z_4.2).bind (fun (z_8 : Int32 × gw_M) => (if ¬ z_8.1 = 0 then (F_X2_heardKept n0 a0 z_8.2).bind (fun (z_13 : Int32 × gw_M) => (if 0 ≤ ((((z_8.2 a0 8) - z_13.1) + v1) - (((z_8.2 a0 8) - z_13.1) + v1) / (24 : Int32) * (24 : Int32)) ∧ ((((z_8.2 a0 8) - z_13.1) + v1) - (((z_8.2 a0 8) - z_13.1) + v1) / (24 : Int32) * (24 : Int32)).toNatClampNeg < 24 then some ((z_13.2 (a0 + 6) ((((z_8.2 a0 8) - z_13.1) + v1) - (((z_8.2 a0 8) - z_13.1) + v1) / (24 : Int32) * (24 : Int32)).toNatClampNeg), z_13.2) else none)) else some ((-1), z_8.2))))
theorem ok_X2_heardAt {l : Launch} {x : gw_C} {d : Nat} {S : gw_S} {Q : Option Value → gw_S → gw_M → Prop} {v1 : Int32} {a0 : Nat} {n0 : Nat} {μ : gw_M} {r μ'} (hS0 : gw_sh S 2 a0) (h : F_X2_heardAt n0 a0 v1 μ = some (r, μ')) (hq : Q (some (.int r)) S μ') : gw_ok l x (d + 3) sgX2_heardAt 0 0 [.ref a0, .int v1] S μ Q := by
  refine gw_ok_of stX2_heardAt (lv0 := [.ref a0, .int v1]) (Nat.le_of_ble_eq_true rfl) rfl rfl ?_
  intro K hK
  have ka0_0 : gw_kd S a0 = 2 := (hS0 0 _ rfl).1
  have ra0_0_7 : gw_rf S a0 7 = a0 + 6 := (hS0 0 _ rfl).2.2 (7, 6) (by decide)
  have ka0_6 : gw_kd S (a0 + 6) = 12 := (hS0 6 _ rfl).1
  have la0_6 : gw_ln S (a0 + 6) = 24 := (hS0 6 _ rfl).2.1
  unfold F_X2_heardAt at h
  refine hK _ _ _ _ _ _ _ ?_
  rw [fdX2_heardAt_0]
  simp only [gt_nil, true_and, eq_self, gt_iload_n, gt_ink, gw_nth, gt_iconst, gt_aload_n, gt_rfk, gt_v0, gt_v1, gt_v2, gt_v3, gt_v4, gt_v5, gt_isub, gt_s1_0, gt_s2_0, gt_s3_0, gt_s4_0, gt_s1_1, gt_s2_1, gt_s3_1, gt_s4_1, gt_acpy, gt_if, gt_iret, gt_retz, bkX2_heardAt_0, ka0_0, ra0_0_7, ka0_6, la0_6]
  obtain ⟨⟨r_1, μ_2⟩, e_3, h⟩ := gw_bnd h
  refine ⟨rfl, 0, 0, Nat.le_refl _, Nat.le_refl _, ok_X2_heardKept hS0 e_3 ?_⟩
  dsimp only at h
  simp only [gt_nil, true_and, eq_self, gt_iconst, gt_isub, gt_s1_0, gt_s2_0, gt_s3_0, gt_s4_0, gt_s1_1, gt_s2_1, gt_s3_1, gt_s4_1, gt_acpy, gt_if, gt_iret, gt_retz, Option.toList, List.cons_append, List.nil_append, Nat.add_zero, ka0_0, ra0_0_7, ka0_6, la0_6]
  obtain ⟨⟨r_5, μ_6⟩, e_7, h⟩ := gw_bnd h
  refine ⟨rfl, 0, 0, Nat.le_refl _, Nat.le_refl _, ok_X10_within e_7 ?_⟩
  intro hbr_5
  dsimp only at h
  simp only [gt_nil, true_and, eq_self, gt_if, gt_iconst, gt_iret, gt_retz, Option.toList, List.cons_append, List.nil_append, Nat.add_zero, ka0_0, ra0_0_7, ka0_6, la0_6]
  refine ⟨fun c_9 => ?_, fun c_9 => ?_⟩
  · replace h := gw_ifp h c_9
    refine hK _ _ _ _ _ _ _ ?_
    rw [fdX2_heardAt_16]
    simp only [gt_nil, true_and, eq_self, gt_aload_n, gt_rfk, gw_nth, gt_get_r, gt_get_i, gt_get_z, gt_v0, gt_v1, gt_v2, gt_v3, gt_v4, gt_v5, gt_isub, gt_iload_n, gt_ink, gt_iadd, gt_bipush, gt_irem, gt_iaload, gt_iret, gt_retz, bkX2_heardAt_16, ka0_0, ra0_0_7, ka0_6, la0_6]
    obtain ⟨⟨r_10, μ_11⟩, e_12, h⟩ := gw_bnd h
    refine ⟨rfl, 0, 0, Nat.le_refl _, Nat.le_refl _, ok_X2_heardKept hS0 e_12 ?_⟩
    dsimp only at h
    simp only [gt_nil, true_and, eq_self, gt_isub, gt_iload_n, gt_ink, gw_nth, gt_iadd, gt_bipush, gt_irem, gt_iaload, gt_iret, gt_retz, Option.toList, List.cons_append, List.nil_append, Nat.add_zero, ka0_0, ra0_0_7, ka0_6, la0_6]
    refine ⟨by decide, ?_⟩
    obtain ⟨c_14, h⟩ := gw_ife h
    refine ⟨c_14, ?_⟩
    cases h
    exact ⟨Nat.le_refl _, Nat.le_refl _, hq⟩
  · replace h := gw_ifn h c_9
    cases h
    exact ⟨Nat.le_refl _, Nat.le_refl _, hq⟩
def F_J9_max_7cf53 (n0 : Nat) (v0 : Int32) (v1 : Int32) (μ : gw_M) : Option (Int32 × gw_M) := (if v0 < v1 then some (v1, μ) else some (v0, μ))
theorem ok_J9_max_7cf53 {l : Launch} {x : gw_C} {d : Nat} {S : gw_S} {Q : Option Value → gw_S → gw_M → Prop} {v0 v1 : Int32} {n0 : Nat} {μ : gw_M} {r μ'} (h : F_J9_max_7cf53 n0 v0 v1 μ = some (r, μ')) (hq : Q (some (.int r)) S μ') : gw_ok l x (d + 1) sgJ9_max_7cf53 0 0 [.int v0, .int v1] S μ Q := by
  refine gw_ok_of stJ9_max_7cf53 (lv0 := [.int v0, .int v1]) (Nat.le_of_ble_eq_true rfl) rfl rfl ?_
  intro K hK
  unfold F_J9_max_7cf53 at h
  refine hK _ _ _ _ _ _ _ ?_
  rw [fdJ9_max_7cf53_0]
  simp only [gt_nil, true_and, eq_self, gt_iload_n, gt_ink, gw_nth, gt_icmp, gt_goto, bkJ9_max_7cf53_0]
  refine ⟨fun c_1 => ?_, fun c_1 => ?_⟩
  · replace h := gw_ifp h c_1
    refine hK _ _ _ _ _ _ _ ?_
    rw [fdJ9_max_7cf53_9]
    simp only [gt_nil, true_and, eq_self, gt_iload_n, gt_ink, gw_nth, bkJ9_max_7cf53_9]
    refine hK _ _ _ _ _ _ _ ?_
    rw [fdJ9_max_7cf53_10]
    simp only [gt_nil, true_and, eq_self, gt_iret, gt_retz, bkJ9_max_7cf53_10]
    cases h
    exact ⟨Nat.le_refl _, Nat.le_refl _, hq⟩
  · replace h := gw_ifn h c_1
    refine hK _ _ _ _ _ _ _ ?_
    rw [fdJ9_max_7cf53_10]
    simp only [gt_nil, true_and, eq_self, gt_iret, gt_retz, bkJ9_max_7cf53_10]
    cases h
    exact ⟨Nat.le_refl _, Nat.le_refl _, hq⟩
def F_X2_noteTake (n0 : Nat) (a0 : Nat) (v1 : Int32) (v2 : Int32) (v3 : Int32) (μ : gw_M) : Option (gw_M) := (if 0 ≤ (v1 - (1 : Int32)) ∧ (v1 - (1 : Int32)).toNatClampNeg < 2 then (if 0 ≤ (v1 - (1 : Int32)) ∧ (v1 - (1 : Int32)).toNatClampNeg < 2 then gw_let (gw_up μ (a0 + 9) (v1 - (1 : Int32)).toNatClampNeg ((μ (a0 + 9) (v1 - (1 : Int32)).toNatClampNeg) + (1 : Int32))) (fun (μ_3 : gw_M) => (if 0 ≤ (v1 - (1 : Int32)) ∧ (v1 - (1 : Int32)).toNatClampNeg < 2 then gw_let (gw_up μ_3 (a0 + 10) (v1 - (1 : Int32)).toNatClampNeg v2) (fun (μ_5 : gw_M) => (if 0 ≤ (v1 - (1 : Int32)) ∧ (v1 - (1 : Int32)).toNatClampNeg < 2 then (F_J9_max_7cf53 n0 (μ_5 (a0 + 11) (v1 - (1 : Int32)).toNatClampNeg) v3 μ_5).bind (fun (z_10 : Int32 × gw_M) => (if 0 ≤ (v1 - (1 : Int32)) ∧ (v1 - (1 : Int32)).toNatClampNeg < 2 then gw_let (gw_up z_10.2 (a0 + 11) (v1 - (1 : Int32)).toNatClampNeg z_10.1) (fun (μ_12 : gw_M) => some μ_12) else none)) else none)) else none)) else none) else none)
theorem ok_X2_noteTake {l : Launch} {x : gw_C} {d : Nat} {S : gw_S} {Q : Option Value → gw_S → gw_M → Prop} {v1 v2 v3 : Int32} {a0 : Nat} {n0 : Nat} {μ : gw_M} {μ'} (hS0 : gw_sh S 2 a0) (h : F_X2_noteTake n0 a0 v1 v2 v3 μ = some μ') (hq : Q none S μ') : gw_ok l x (d + 2) sgX2_noteTake 0 0 [.ref a0, .int v1, .int v2, .int v3] S μ Q := by
  refine gw_ok_of stX2_noteTake (lv0 := [.ref a0, .int v1, .int v2, .int v3]) (Nat.le_of_ble_eq_true rfl) rfl rfl ?_
  intro K hK
  have ka0_0 : gw_kd S a0 = 2 := (hS0 0 _ rfl).1
  have ra0_0_12 : gw_rf S a0 12 = a0 + 9 := (hS0 0 _ rfl).2.2 (12, 9) (by decide)
  have ra0_0_13 : gw_rf S a0 13 = a0 + 10 := (hS0 0 _ rfl).2.2 (13, 10) (by decide)
  have ra0_0_14 : gw_rf S a0 14 = a0 + 11 := (hS0 0 _ rfl).2.2 (14, 11) (by decide)
  have ka0_10 : gw_kd S (a0 + 10) = 12 := (hS0 10 _ rfl).1
  have la0_10 : gw_ln S (a0 + 10) = 2 := (hS0 10 _ rfl).2.1
  have ka0_11 : gw_kd S (a0 + 11) = 12 := (hS0 11 _ rfl).1
  have la0_11 : gw_ln S (a0 + 11) = 2 := (hS0 11 _ rfl).2.1
  have ka0_9 : gw_kd S (a0 + 9) = 12 := (hS0 9 _ rfl).1
  have la0_9 : gw_ln S (a0 + 9) = 2 := (hS0 9 _ rfl).2.1
  unfold F_X2_noteTake at h
  refine hK _ _ _ _ _ _ _ ?_
  rw [fdX2_noteTake_0]
  simp only [gt_nil, true_and, eq_self, gt_aload_n, gt_rfk, gw_nth, gt_get_r, gt_get_i, gt_get_z, gt_iload_n, gt_ink, gt_iconst, gt_isub, gt_dup2, gt_iaload, gt_iadd, gt_iastore, gt_s1_0, gt_s2_0, gt_s3_0, gt_s4_0, gt_s1_1, gt_s2_1, gt_s3_1, gt_s4_1, gt_acpy, gt_vret, bkX2_noteTake_0, ka0_0, ra0_0_12, ra0_0_13, ra0_0_14, ka0_10, la0_10, ka0_11, la0_11, ka0_9, la0_9]
  obtain ⟨c_1, h⟩ := gw_ife h
  refine ⟨c_1, ?_⟩
  obtain ⟨c_2, h⟩ := gw_ife h
  refine ⟨c_2, ?_⟩
  obtain ⟨μ_3, hμ_3, h⟩ := gw_lt h
  try rw [← hμ_3]
  obtain ⟨c_4, h⟩ := gw_ife h
  refine ⟨c_4, ?_⟩
  obtain ⟨μ_5, hμ_5, h⟩ := gw_lt h
  try rw [← hμ_5]
  obtain ⟨c_6, h⟩ := gw_ife h
  refine ⟨c_6, ?_⟩
  obtain ⟨⟨r_7, μ_8⟩, e_9, h⟩ := gw_bnd h
  refine ⟨rfl, 0, 0, Nat.le_refl _, Nat.le_refl _, ok_J9_max_7cf53 e_9 ?_⟩
  dsimp only at h
  simp only [gt_nil, true_and, eq_self, gt_iastore, gt_vret, Option.toList, List.cons_append, List.nil_append, Nat.add_zero, ka0_0, ra0_0_12, ra0_0_13, ra0_0_14, ka0_10, la0_10, ka0_11, la0_11, ka0_9, la0_9]
  obtain ⟨c_11, h⟩ := gw_ife h
  refine ⟨c_11, ?_⟩
  obtain ⟨μ_12, hμ_12, h⟩ := gw_lt h
  try rw [← hμ_12]
  cases h
  exact ⟨Nat.le_refl _, Nat.le_refl _, hq⟩
def F_X4_copyFrom (n0 : Nat) (a0 : Nat) (p1 : Nat) (μ : gw_M) : Option (gw_M) := (F_X8_copyFrom n0 (a0 + 1) (p1 + 1) μ).bind (fun (μ_2 : gw_M) => gw_let (gw_cpy μ_2 (p1 + 5) (a0 + 5) 0 0 10) (fun (μ_5 : gw_M) => gw_let (gw_cpy μ_5 (p1 + 6) (a0 + 6) 0 0 16) (fun (μ_6 : gw_M) => gw_let (gw_up μ_6 a0 3 (μ_6 p1 3)) (fun (μ_7 : gw_M) => gw_let (gw_up μ_7 a0 4 (μ_7 p1 4)) (fun (μ_8 : gw_M) => gw_let (gw_up μ_8 a0 5 (μ_8 p1 5)) (fun (μ_9 : gw_M) => some μ_9))))))
theorem ok_X4_copyFrom {l : Launch} {x : gw_C} {d : Nat} {S : gw_S} {Q : Option Value → gw_S → gw_M → Prop} {a0 p1 : Nat} {n0 : Nat} {μ : gw_M} {μ'} (hS0 : gw_sh S 4 a0) (hpp1 : gw_sh S 4 p1) (h : F_X4_copyFrom n0 a0 p1 μ = some μ') (hq : Q none S μ') : gw_ok l x (d + 2) sgX4_copyFrom 0 0 [.ref a0, .ref p1] S μ Q := by
  refine gw_ok_of stX4_copyFrom (lv0 := [.ref a0, .ref p1]) (Nat.le_of_ble_eq_true rfl) rfl rfl ?_
  intro K hK
  have ka0_0 : gw_kd S a0 = 4 := (hS0 0 _ rfl).1
  have ra0_0_0 : gw_rf S a0 0 = a0 + 1 := (hS0 0 _ rfl).2.2 (0, 1) (by decide)
  have ra0_0_1 : gw_rf S a0 1 = a0 + 5 := (hS0 0 _ rfl).2.2 (1, 5) (by decide)
  have ra0_0_2 : gw_rf S a0 2 = a0 + 6 := (hS0 0 _ rfl).2.2 (2, 6) (by decide)
  have ka0_1 : gw_kd S (a0 + 1) = 8 := (hS0 1 _ rfl).1
  have ka0_5 : gw_kd S (a0 + 5) = 12 := (hS0 5 _ rfl).1
  have la0_5 : gw_ln S (a0 + 5) = 10 := (hS0 5 _ rfl).2.1
  have ka0_6 : gw_kd S (a0 + 6) = 12 := (hS0 6 _ rfl).1
  have la0_6 : gw_ln S (a0 + 6) = 16 := (hS0 6 _ rfl).2.1
  have kp1_0 : gw_kd S p1 = 4 := (hpp1 0 _ rfl).1
  have rp1_0_0 : gw_rf S p1 0 = p1 + 1 := (hpp1 0 _ rfl).2.2 (0, 1) (by decide)
  have rp1_0_1 : gw_rf S p1 1 = p1 + 5 := (hpp1 0 _ rfl).2.2 (1, 5) (by decide)
  have rp1_0_2 : gw_rf S p1 2 = p1 + 6 := (hpp1 0 _ rfl).2.2 (2, 6) (by decide)
  have kp1_1 : gw_kd S (p1 + 1) = 8 := (hpp1 1 _ rfl).1
  have kp1_5 : gw_kd S (p1 + 5) = 12 := (hpp1 5 _ rfl).1
  have lp1_5 : gw_ln S (p1 + 5) = 10 := (hpp1 5 _ rfl).2.1
  have kp1_6 : gw_kd S (p1 + 6) = 12 := (hpp1 6 _ rfl).1
  have lp1_6 : gw_ln S (p1 + 6) = 16 := (hpp1 6 _ rfl).2.1
  unfold F_X4_copyFrom at h
  refine hK _ _ _ _ _ _ _ ?_
  rw [fdX4_copyFrom_0]
  simp only [gt_nil, true_and, eq_self, gt_aload_n, gt_rfk, gw_nth, gt_get_r, gt_get_i, gt_get_z, gt_v0, gt_v1, gt_v2, gt_v3, gt_v4, gt_v5, gt_iconst, gt_bipush, gt_s1_0, gt_s2_0, gt_s3_0, gt_s4_0, gt_s1_1, gt_s2_1, gt_s3_1, gt_s4_1, gt_acpy, gt_put_i, gt_putz, gt_vret, bkX4_copyFrom_0, ka0_0, ra0_0_0, ra0_0_1, ra0_0_2, ka0_1, ka0_5, la0_5, ka0_6, la0_6, kp1_0, rp1_0_0, rp1_0_1, rp1_0_2, kp1_1, kp1_5, lp1_5, kp1_6, lp1_6, (show Int32.toNatClampNeg 0 = 0 from rfl), (show Int32.toNatClampNeg 10 = 10 from rfl), (show Int32.toNatClampNeg 16 = 16 from rfl)]
  obtain ⟨μ_2, e_3, h⟩ := gw_bnd h
  refine ⟨rfl, 0, 0, Nat.le_refl _, Nat.le_refl _, ok_X8_copyFrom (gw_sub hS0 8 1 (by decide +kernel)) (gw_sub hpp1 8 1 (by decide +kernel)) e_3 ?_⟩
  simp only [gt_nil, true_and, eq_self, gt_aload_n, gt_rfk, gw_nth, gt_get_r, gt_get_i, gt_get_z, gt_iconst, gt_bipush, gt_s1_0, gt_s2_0, gt_s3_0, gt_s4_0, gt_s1_1, gt_s2_1, gt_s3_1, gt_s4_1, gt_acpy, gt_put_i, gt_putz, gt_vret, Option.toList, List.cons_append, List.nil_append, Nat.add_zero, ka0_0, ra0_0_0, ra0_0_1, ra0_0_2, ka0_1, ka0_5, la0_5, ka0_6, la0_6, kp1_0, rp1_0_0, rp1_0_1, rp1_0_2, kp1_1, kp1_5, lp1_5, kp1_6, lp1_6, (show Int32.toNatClampNeg 0 = 0 from rfl), (show Int32.toNatClampNeg 10 = 10 from rfl), (show Int32.toNatClampNeg 16 = 16 from rfl)]
  refine ⟨by decide, by decide, by decide, by decide, by decide, ?_⟩
  obtain ⟨μ_5, hμ_5, h⟩ := gw_lt h
  try rw [← hμ_5]
  refine ⟨by decide, by decide, by decide, by decide, by decide, ?_⟩
  obtain ⟨μ_6, hμ_6, h⟩ := gw_lt h
  try rw [← hμ_6]
  obtain ⟨μ_7, hμ_7, h⟩ := gw_lt h
  try rw [← hμ_7]
  obtain ⟨μ_8, hμ_8, h⟩ := gw_lt h
  try rw [← hμ_8]
  obtain ⟨μ_9, hμ_9, h⟩ := gw_lt h
  try rw [← hμ_9]
  cases h
  exact ⟨Nat.le_refl _, Nat.le_refl _, hq⟩
def F_X9_copyFrom (n0 : Nat) (a0 : Nat) (p1 : Nat) (μ : gw_M) : Option (gw_M) := gw_let (gw_cpy μ (p1 + 1) (a0 + 1) 0 0 12) (fun (μ_1 : gw_M) => gw_let (gw_cpy μ_1 (p1 + 2) (a0 + 2) 0 0 12) (fun (μ_2 : gw_M) => gw_let (gw_cpy μ_2 (p1 + 3) (a0 + 3) 0 0 12) (fun (μ_3 : gw_M) => gw_let (gw_up μ_3 a0 3 (μ_3 p1 3)) (fun (μ_4 : gw_M) => some μ_4))))
theorem ok_X9_copyFrom {l : Launch} {x : gw_C} {d : Nat} {S : gw_S} {Q : Option Value → gw_S → gw_M → Prop} {a0 p1 : Nat} {n0 : Nat} {μ : gw_M} {μ'} (hS0 : gw_sh S 9 a0) (hpp1 : gw_sh S 9 p1) (h : F_X9_copyFrom n0 a0 p1 μ = some μ') (hq : Q none S μ') : gw_ok l x (d + 1) sgX9_copyFrom 0 0 [.ref a0, .ref p1] S μ Q := by
  refine gw_ok_of stX9_copyFrom (lv0 := [.ref a0, .ref p1]) (Nat.le_of_ble_eq_true rfl) rfl rfl ?_
  intro K hK
  have ka0_0 : gw_kd S a0 = 9 := (hS0 0 _ rfl).1
  have ra0_0_0 : gw_rf S a0 0 = a0 + 1 := (hS0 0 _ rfl).2.2 (0, 1) (by decide)
  have ra0_0_1 : gw_rf S a0 1 = a0 + 2 := (hS0 0 _ rfl).2.2 (1, 2) (by decide)
  have ra0_0_2 : gw_rf S a0 2 = a0 + 3 := (hS0 0 _ rfl).2.2 (2, 3) (by decide)
  have ka0_1 : gw_kd S (a0 + 1) = 12 := (hS0 1 _ rfl).1
  have la0_1 : gw_ln S (a0 + 1) = 12 := (hS0 1 _ rfl).2.1
  have ka0_2 : gw_kd S (a0 + 2) = 12 := (hS0 2 _ rfl).1
  have la0_2 : gw_ln S (a0 + 2) = 12 := (hS0 2 _ rfl).2.1
  have ka0_3 : gw_kd S (a0 + 3) = 12 := (hS0 3 _ rfl).1
  have la0_3 : gw_ln S (a0 + 3) = 12 := (hS0 3 _ rfl).2.1
  have kp1_0 : gw_kd S p1 = 9 := (hpp1 0 _ rfl).1
  have rp1_0_0 : gw_rf S p1 0 = p1 + 1 := (hpp1 0 _ rfl).2.2 (0, 1) (by decide)
  have rp1_0_1 : gw_rf S p1 1 = p1 + 2 := (hpp1 0 _ rfl).2.2 (1, 2) (by decide)
  have rp1_0_2 : gw_rf S p1 2 = p1 + 3 := (hpp1 0 _ rfl).2.2 (2, 3) (by decide)
  have kp1_1 : gw_kd S (p1 + 1) = 12 := (hpp1 1 _ rfl).1
  have lp1_1 : gw_ln S (p1 + 1) = 12 := (hpp1 1 _ rfl).2.1
  have kp1_2 : gw_kd S (p1 + 2) = 12 := (hpp1 2 _ rfl).1
  have lp1_2 : gw_ln S (p1 + 2) = 12 := (hpp1 2 _ rfl).2.1
  have kp1_3 : gw_kd S (p1 + 3) = 12 := (hpp1 3 _ rfl).1
  have lp1_3 : gw_ln S (p1 + 3) = 12 := (hpp1 3 _ rfl).2.1
  unfold F_X9_copyFrom at h
  refine hK _ _ _ _ _ _ _ ?_
  rw [fdX9_copyFrom_0]
  simp only [gt_nil, true_and, eq_self, gt_aload_n, gt_rfk, gw_nth, gt_get_r, gt_get_i, gt_get_z, gt_iconst, gt_bipush, gt_s1_0, gt_s2_0, gt_s3_0, gt_s4_0, gt_s1_1, gt_s2_1, gt_s3_1, gt_s4_1, gt_acpy, gt_put_i, gt_putz, gt_vret, bkX9_copyFrom_0, ka0_0, ra0_0_0, ra0_0_1, ra0_0_2, ka0_1, la0_1, ka0_2, la0_2, ka0_3, la0_3, kp1_0, rp1_0_0, rp1_0_1, rp1_0_2, kp1_1, lp1_1, kp1_2, lp1_2, kp1_3, lp1_3, (show Int32.toNatClampNeg 0 = 0 from rfl), (show Int32.toNatClampNeg 12 = 12 from rfl)]
  refine ⟨by decide, by decide, by decide, by decide, by decide, ?_⟩
  obtain ⟨μ_1, hμ_1, h⟩ := gw_lt h
  try rw [← hμ_1]
  refine ⟨by decide, by decide, by decide, by decide, by decide, ?_⟩
  obtain ⟨μ_2, hμ_2, h⟩ := gw_lt h
  try rw [← hμ_2]
  refine ⟨by decide, by decide, by decide, by decide, by decide, ?_⟩
  obtain ⟨μ_3, hμ_3, h⟩ := gw_lt h
  try rw [← hμ_3]
  obtain ⟨μ_4, hμ_4, h⟩ := gw_lt h
  try rw [← hμ_4]
  cases h
  exact ⟨Nat.le_refl _, Nat.le_refl _, hq⟩
def F_J6_bitCount_0f7a4 (n0 : Nat) (v0 : Int32) (μ : gw_M) : Option (Int32 × gw_M) := gw_let ((v0 - ((v0.toUInt32 >>> ((1 : Int32).toUInt32 &&& Int32.toUInt32 31)).toInt32 &&& (1431655765 : Int32)))) (fun (w_1 : Int32) => gw_let (((w_1 &&& (858993459 : Int32)) + ((w_1.toUInt32 >>> ((2 : Int32).toUInt32 &&& Int32.toUInt32 31)).toInt32 &&& (858993459 : Int32)))) (fun (w_2 : Int32) => gw_let (((w_2 + (w_2.toUInt32 >>> ((4 : Int32).toUInt32 &&& Int32.toUInt32 31)).toInt32) &&& (252645135 : Int32))) (fun (w_3 : Int32) => gw_let ((w_3 + (w_3.toUInt32 >>> ((8 : Int32).toUInt32 &&& Int32.toUInt32 31)).toInt32)) (fun (w_4 : Int32) => gw_let ((w_4 + (w_4.toUInt32 >>> ((16 : Int32).toUInt32 &&& Int32.toUInt32 31)).toInt32)) (fun (w_5 : Int32) => some ((w_5 &&& (63 : Int32)), μ))))))
theorem ok_J6_bitCount_0f7a4 {l : Launch} {x : gw_C} {d : Nat} {S : gw_S} {Q : Option Value → gw_S → gw_M → Prop} {v0 : Int32} {n0 : Nat} {μ : gw_M} {r μ'} (h : F_J6_bitCount_0f7a4 n0 v0 μ = some (r, μ')) (hq : Q (some (.int r)) S μ') : gw_ok l x (d + 1) sgJ6_bitCount_0f7a4 0 0 [.int v0] S μ Q := by
  refine gw_ok_of stJ6_bitCount_0f7a4 (lv0 := [.int v0]) (Nat.le_of_ble_eq_true rfl) rfl rfl ?_
  intro K hK
  unfold F_J6_bitCount_0f7a4 at h
  refine hK _ _ _ _ _ _ _ ?_
  rw [fdJ6_bitCount_0f7a4_0]
  simp only [gt_nil, true_and, eq_self, gt_iload_n, gt_ink, gw_nth, gt_iconst, gt_iushr, gt_ldc_w, gt_iand, gt_isub, gt_istore_n, gw_set, gt_iadd, gt_bipush, gt_iret, gt_retz, bkJ6_bitCount_0f7a4_0]
  obtain ⟨w_1, hw_1, h⟩ := gw_lt h
  try rw [← hw_1]
  obtain ⟨w_2, hw_2, h⟩ := gw_lt h
  try rw [← hw_2]
  obtain ⟨w_3, hw_3, h⟩ := gw_lt h
  try rw [← hw_3]
  obtain ⟨w_4, hw_4, h⟩ := gw_lt h
  try rw [← hw_4]
  obtain ⟨w_5, hw_5, h⟩ := gw_lt h
  try rw [← hw_5]
  cases h
  exact ⟨Nat.le_refl _, Nat.le_refl _, hq⟩
def F_X4_framesLedTo_37 (rec4 : Int32 → Int32 → gw_M → Option (Int32 × gw_M)) (n0 : Nat) (a0 : Nat) (v1 : Int32) (v2 : Int32) (μ : gw_M) : Option (Int32 × gw_M) := gw_let (v2 + 1) (fun (w_1 : Int32) => rec4 v1 w_1 μ)
def F_X4_framesLedTo_4 (n0 : Nat) (a0 : Nat) : Nat → Int32 → Int32 → gw_M → Option (Int32 × gw_M)
  | 0, _, _, _ => none
  | n + 1, v1, v2, μ => (if 16 ≤ v2 then some (v1, μ) else (if 0 ≤ v2 ∧ v2.toNatClampNeg < 16 then (if (μ (a0 + 2) v2.toNatClampNeg) = (-1) then F_X4_framesLedTo_37 (F_X4_framesLedTo_4 n0 a0 n) n0 a0 v1 v2 μ else (if 0 ≤ v2 ∧ v2.toNatClampNeg < 16 then gw_let ((v1 ||| ((1 : Int32) <<< ((μ (a0 + 2) v2.toNatClampNeg) &&& 31)))) (fun (w_5 : Int32) => F_X4_framesLedTo_37 (F_X4_framesLedTo_4 n0 a0 n) n0 a0 w_5 v2 μ) else none)) else none))
def F_X4_framesLedTo (n0 : Nat) (a0 : Nat) (μ : gw_M) : Option (Int32 × gw_M) := F_X4_framesLedTo_4 n0 a0 n0 0 0 μ
theorem B_X4_framesLedTo_37 {l : Launch} {x : gw_C} {d : Nat} {S : gw_S} {Q : Option Value → gw_S → gw_M → Prop} {K : Nat → gw_Kt} (hK : gw_cl l x (d + 0) bsX4_framesLedTo Q K) {a0 : Nat} (hS0 : gw_sh S 4 a0) {rec4 : Int32 → Int32 → gw_M → Option (Int32 × gw_M)} (hrec4 : ∀ {v1 v2} {μ : gw_M} {r μ'}, rec4 v1 v2 μ = some (r, μ') → Q (some (.int r)) S μ' → K 4 [.ref a0, .int v1, .int v2] [] S μ 0 0) {n0 : Nat} {v1 v2} {μ : gw_M} {r μ'} (h : F_X4_framesLedTo_37 rec4 n0 a0 v1 v2 μ = some (r, μ')) (hq : Q (some (.int r)) S μ') : K 37 [.ref a0, .int v1, .int v2] [] S μ 0 0 := by
  unfold F_X4_framesLedTo_37 at h
  refine hK _ _ _ _ _ _ _ ?_
  rw [fdX4_framesLedTo_37]
  simp only [gt_nil, true_and, eq_self, gt_iinc, gt_ink, gw_nth, gw_set, gt_goto, bkX4_framesLedTo_37]
  obtain ⟨w_1, hw_1, h⟩ := gw_lt h
  try rw [← hw_1]
  exact hrec4 h hq
theorem B_X4_framesLedTo_4 {l : Launch} {x : gw_C} {d : Nat} {S : gw_S} {Q : Option Value → gw_S → gw_M → Prop} {K : Nat → gw_Kt} (hK : gw_cl l x (d + 0) bsX4_framesLedTo Q K) {a0 : Nat} (hS0 : gw_sh S 4 a0) {n0 : Nat} : ∀ {n : Nat} {v1 v2} {μ : gw_M} {r μ'}, F_X4_framesLedTo_4 n0 a0 n v1 v2 μ = some (r, μ') → Q (some (.int r)) S μ' → K 4 [.ref a0, .int v1, .int v2] [] S μ 0 0 := by
  have ka0_0 : gw_kd S a0 = 4 := (hS0 0 _ rfl).1
  have ra0_0_0 : gw_rf S a0 0 = a0 + 1 := (hS0 0 _ rfl).2.2 (0, 1) (by decide)
  have ka0_1 : gw_kd S (a0 + 1) = 8 := (hS0 1 _ rfl).1
  have ra0_1_0 : gw_rf S (a0 + 1) 0 = a0 + 2 := (hS0 1 _ rfl).2.2 (0, 2) (by decide)
  have ka0_2 : gw_kd S (a0 + 2) = 12 := (hS0 2 _ rfl).1
  have la0_2 : gw_ln S (a0 + 2) = 16 := (hS0 2 _ rfl).2.1
  intro n
  induction n with
  | zero => intro v1 v2 μ r μ' h hq; simp [F_X4_framesLedTo_4] at h
  | succ n ih =>
    intro v1 v2 μ r μ' h hq
    simp only [F_X4_framesLedTo_4] at h
    refine hK _ _ _ _ _ _ _ ?_
    rw [fdX4_framesLedTo_4]
    simp only [gt_nil, true_and, eq_self, gt_iload_n, gt_ink, gw_nth, gt_bipush, gt_icmp, gt_aload_n, gt_rfk, gt_get_r, gt_get_i, gt_get_z, gt_iaload, gt_iconst, gt_ishl, gt_ior, gt_istore_n, gw_set, bkX4_framesLedTo_4, ka0_0, ra0_0_0, ka0_1, ra0_1_0, ka0_2, la0_2]
    refine ⟨fun c_1 => ?_, fun c_1 => ?_⟩
    · replace h := gw_ifp h c_1
      refine hK _ _ _ _ _ _ _ ?_
      rw [fdX4_framesLedTo_43]
      simp only [gt_nil, true_and, eq_self, gt_iload_n, gt_ink, gw_nth, gt_iret, gt_retz, bkX4_framesLedTo_43, ka0_0, ra0_0_0, ka0_1, ra0_1_0, ka0_2, la0_2]
      cases h
      exact ⟨Nat.le_refl _, Nat.le_refl _, hq⟩
    · replace h := gw_ifn h c_1
      obtain ⟨c_2, h⟩ := gw_ife h
      refine ⟨c_2, ?_⟩
      refine ⟨fun c_3 => ?_, fun c_3 => ?_⟩
      · replace h := gw_ifp h c_3
        exact B_X4_framesLedTo_37 hK hS0 ih h hq
      · replace h := gw_ifn h c_3
        obtain ⟨c_4, h⟩ := gw_ife h
        refine ⟨c_4, ?_⟩
        obtain ⟨w_5, hw_5, h⟩ := gw_lt h
        try rw [← hw_5]
        exact B_X4_framesLedTo_37 hK hS0 ih h hq
theorem ok_X4_framesLedTo {l : Launch} {x : gw_C} {d : Nat} {S : gw_S} {Q : Option Value → gw_S → gw_M → Prop} {a0 : Nat} {n0 : Nat} {μ : gw_M} {r μ'} (hS0 : gw_sh S 4 a0) (h : F_X4_framesLedTo n0 a0 μ = some (r, μ')) (hq : Q (some (.int r)) S μ') : gw_ok l x (d + 1) sgX4_framesLedTo 0 0 [.ref a0] S μ Q := by
  refine gw_ok_of stX4_framesLedTo (lv0 := [.ref a0, .retAddr 0, .retAddr 0]) (Nat.le_of_ble_eq_true rfl) rfl rfl ?_
  intro K hK
  unfold F_X4_framesLedTo at h
  refine hK _ _ _ _ _ _ _ ?_
  rw [fdX4_framesLedTo_0]
  simp only [gt_nil, true_and, eq_self, gt_iconst, gt_istore_n, gw_set, bkX4_framesLedTo_0]
  exact B_X4_framesLedTo_4 hK hS0 h hq
def F_X4_framesFree (n0 : Nat) (a0 : Nat) (μ : gw_M) : Option (Int32 × gw_M) := (F_X4_framesLedTo n0 a0 μ).bind (fun (z_4 : Int32 × gw_M) => (F_J6_bitCount_0f7a4 n0 z_4.1 z_4.2).bind (fun (z_8 : Int32 × gw_M) => some (((10 : Int32) - z_8.1), z_8.2)))
theorem ok_X4_framesFree {l : Launch} {x : gw_C} {d : Nat} {S : gw_S} {Q : Option Value → gw_S → gw_M → Prop} {a0 : Nat} {n0 : Nat} {μ : gw_M} {r μ'} (hS0 : gw_sh S 4 a0) (h : F_X4_framesFree n0 a0 μ = some (r, μ')) (hq : Q (some (.int r)) S μ') : gw_ok l x (d + 2) sgX4_framesFree 0 0 [.ref a0] S μ Q := by
  refine gw_ok_of stX4_framesFree (lv0 := [.ref a0]) (Nat.le_of_ble_eq_true rfl) rfl rfl ?_
  intro K hK
  have ka0_0 : gw_kd S a0 = 4 := (hS0 0 _ rfl).1
  unfold F_X4_framesFree at h
  refine hK _ _ _ _ _ _ _ ?_
  rw [fdX4_framesFree_0]
  simp only [gt_nil, true_and, eq_self, gt_bipush, gt_aload_n, gt_rfk, gw_nth, gt_v0, gt_v1, gt_v2, gt_v3, gt_v4, gt_v5, gt_s1_0, gt_s2_0, gt_s3_0, gt_s4_0, gt_s1_1, gt_s2_1, gt_s3_1, gt_s4_1, gt_acpy, gt_isub, gt_iret, gt_retz, bkX4_framesFree_0, ka0_0]
  obtain ⟨⟨r_1, μ_2⟩, e_3, h⟩ := gw_bnd h
  refine ⟨rfl, 0, 0, Nat.le_refl _, Nat.le_refl _, ok_X4_framesLedTo hS0 e_3 ?_⟩
  dsimp only at h
  simp only [gt_nil, true_and, eq_self, gt_s1_0, gt_s2_0, gt_s3_0, gt_s4_0, gt_s1_1, gt_s2_1, gt_s3_1, gt_s4_1, gt_acpy, gt_isub, gt_iret, gt_retz, Option.toList, List.cons_append, List.nil_append, Nat.add_zero, ka0_0]
  obtain ⟨⟨r_5, μ_6⟩, e_7, h⟩ := gw_bnd h
  refine ⟨rfl, 0, 0, Nat.le_refl _, Nat.le_refl _, ok_J6_bitCount_0f7a4 e_7 ?_⟩
  dsimp only at h
  simp only [gt_nil, true_and, eq_self, gt_isub, gt_iret, gt_retz, Option.toList, List.cons_append, List.nil_append, Nat.add_zero, ka0_0]
  cases h
  exact ⟨Nat.le_refl _, Nat.le_refl _, hq⟩
def F_X8_size_23 (rec4 : Int32 → Int32 → gw_M → Option (Int32 × gw_M)) (n0 : Nat) (a0 : Nat) (v1 : Int32) (v2 : Int32) (μ : gw_M) : Option (Int32 × gw_M) := gw_let (v2 + 1) (fun (w_1 : Int32) => rec4 v1 w_1 μ)
def F_X8_size_4 (n0 : Nat) (a0 : Nat) : Nat → Int32 → Int32 → gw_M → Option (Int32 × gw_M)
  | 0, _, _, _ => none
  | n + 1, v1, v2, μ => (if 16 ≤ v2 then some (v1, μ) else (if 0 ≤ v2 ∧ v2.toNatClampNeg < 16 then (if (μ (a0 + 1) v2.toNatClampNeg) = (-1) then F_X8_size_23 (F_X8_size_4 n0 a0 n) n0 a0 v1 v2 μ else gw_let (v1 + 1) (fun (w_4 : Int32) => F_X8_size_23 (F_X8_size_4 n0 a0 n) n0 a0 w_4 v2 μ)) else none))
def F_X8_size (n0 : Nat) (a0 : Nat) (μ : gw_M) : Option (Int32 × gw_M) := F_X8_size_4 n0 a0 n0 0 0 μ
theorem B_X8_size_23 {l : Launch} {x : gw_C} {d : Nat} {S : gw_S} {Q : Option Value → gw_S → gw_M → Prop} {K : Nat → gw_Kt} (hK : gw_cl l x (d + 0) bsX8_size Q K) {a0 : Nat} (hS0 : gw_sh S 8 a0) {rec4 : Int32 → Int32 → gw_M → Option (Int32 × gw_M)} (hrec4 : ∀ {v1 v2} {μ : gw_M} {r μ'}, rec4 v1 v2 μ = some (r, μ') → Q (some (.int r)) S μ' → K 4 [.ref a0, .int v1, .int v2] [] S μ 0 0) {n0 : Nat} {v1 v2} {μ : gw_M} {r μ'} (h : F_X8_size_23 rec4 n0 a0 v1 v2 μ = some (r, μ')) (hq : Q (some (.int r)) S μ') : K 23 [.ref a0, .int v1, .int v2] [] S μ 0 0 := by
  unfold F_X8_size_23 at h
  refine hK _ _ _ _ _ _ _ ?_
  rw [fdX8_size_23]
  simp only [gt_nil, true_and, eq_self, gt_iinc, gt_ink, gw_nth, gw_set, gt_goto, bkX8_size_23]
  obtain ⟨w_1, hw_1, h⟩ := gw_lt h
  try rw [← hw_1]
  exact hrec4 h hq
theorem B_X8_size_4 {l : Launch} {x : gw_C} {d : Nat} {S : gw_S} {Q : Option Value → gw_S → gw_M → Prop} {K : Nat → gw_Kt} (hK : gw_cl l x (d + 0) bsX8_size Q K) {a0 : Nat} (hS0 : gw_sh S 8 a0) {n0 : Nat} : ∀ {n : Nat} {v1 v2} {μ : gw_M} {r μ'}, F_X8_size_4 n0 a0 n v1 v2 μ = some (r, μ') → Q (some (.int r)) S μ' → K 4 [.ref a0, .int v1, .int v2] [] S μ 0 0 := by
  have ka0_0 : gw_kd S a0 = 8 := (hS0 0 _ rfl).1
  have ra0_0_0 : gw_rf S a0 0 = a0 + 1 := (hS0 0 _ rfl).2.2 (0, 1) (by decide)
  have ka0_1 : gw_kd S (a0 + 1) = 12 := (hS0 1 _ rfl).1
  have la0_1 : gw_ln S (a0 + 1) = 16 := (hS0 1 _ rfl).2.1
  intro n
  induction n with
  | zero => intro v1 v2 μ r μ' h hq; simp [F_X8_size_4] at h
  | succ n ih =>
    intro v1 v2 μ r μ' h hq
    simp only [F_X8_size_4] at h
    refine hK _ _ _ _ _ _ _ ?_
    rw [fdX8_size_4]
    simp only [gt_nil, true_and, eq_self, gt_iload_n, gt_ink, gw_nth, gt_bipush, gt_icmp, gt_aload_n, gt_rfk, gt_get_r, gt_get_i, gt_get_z, gt_iaload, gt_iconst, gt_iinc, gw_set, bkX8_size_4, ka0_0, ra0_0_0, ka0_1, la0_1]
    refine ⟨fun c_1 => ?_, fun c_1 => ?_⟩
    · replace h := gw_ifp h c_1
      refine hK _ _ _ _ _ _ _ ?_
      rw [fdX8_size_29]
      simp only [gt_nil, true_and, eq_self, gt_iload_n, gt_ink, gw_nth, gt_iret, gt_retz, bkX8_size_29, ka0_0, ra0_0_0, ka0_1, la0_1]
      cases h
      exact ⟨Nat.le_refl _, Nat.le_refl _, hq⟩
    · replace h := gw_ifn h c_1
      obtain ⟨c_2, h⟩ := gw_ife h
      refine ⟨c_2, ?_⟩
      refine ⟨fun c_3 => ?_, fun c_3 => ?_⟩
      · replace h := gw_ifp h c_3
        exact B_X8_size_23 hK hS0 ih h hq
      · replace h := gw_ifn h c_3
        obtain ⟨w_4, hw_4, h⟩ := gw_lt h
        try rw [← hw_4]
        exact B_X8_size_23 hK hS0 ih h hq
theorem ok_X8_size {l : Launch} {x : gw_C} {d : Nat} {S : gw_S} {Q : Option Value → gw_S → gw_M → Prop} {a0 : Nat} {n0 : Nat} {μ : gw_M} {r μ'} (hS0 : gw_sh S 8 a0) (h : F_X8_size n0 a0 μ = some (r, μ')) (hq : Q (some (.int r)) S μ') : gw_ok l x (d + 1) sgX8_size 0 0 [.ref a0] S μ Q := by
  refine gw_ok_of stX8_size (lv0 := [.ref a0, .retAddr 0, .retAddr 0]) (Nat.le_of_ble_eq_true rfl) rfl rfl ?_
  intro K hK
  unfold F_X8_size at h
  refine hK _ _ _ _ _ _ _ ?_
  rw [fdX8_size_0]
  simp only [gt_nil, true_and, eq_self, gt_iconst, gt_istore_n, gw_set, bkX8_size_0]
  exact B_X8_size_4 hK hS0 h hq
def F_X8_drop (n0 : Nat) (a0 : Nat) (v1 : Int32) (μ : gw_M) : Option (gw_M) := (if 0 ≤ v1 ∧ v1.toNatClampNeg < 16 then gw_let (gw_up μ (a0 + 1) v1.toNatClampNeg (-1)) (fun (μ_2 : gw_M) => (if 0 ≤ v1 ∧ v1.toNatClampNeg < 16 then gw_let (gw_up μ_2 (a0 + 2) v1.toNatClampNeg 0) (fun (μ_4 : gw_M) => some μ_4) else none)) else none)
theorem ok_X8_drop {l : Launch} {x : gw_C} {d : Nat} {S : gw_S} {Q : Option Value → gw_S → gw_M → Prop} {v1 : Int32} {a0 : Nat} {n0 : Nat} {μ : gw_M} {μ'} (hS0 : gw_sh S 8 a0) (h : F_X8_drop n0 a0 v1 μ = some μ') (hq : Q none S μ') : gw_ok l x (d + 1) sgX8_drop 0 0 [.ref a0, .int v1] S μ Q := by
  refine gw_ok_of stX8_drop (lv0 := [.ref a0, .int v1]) (Nat.le_of_ble_eq_true rfl) rfl rfl ?_
  intro K hK
  have ka0_0 : gw_kd S a0 = 8 := (hS0 0 _ rfl).1
  have ra0_0_0 : gw_rf S a0 0 = a0 + 1 := (hS0 0 _ rfl).2.2 (0, 1) (by decide)
  have ra0_0_1 : gw_rf S a0 1 = a0 + 2 := (hS0 0 _ rfl).2.2 (1, 2) (by decide)
  have ka0_1 : gw_kd S (a0 + 1) = 12 := (hS0 1 _ rfl).1
  have la0_1 : gw_ln S (a0 + 1) = 16 := (hS0 1 _ rfl).2.1
  have ka0_2 : gw_kd S (a0 + 2) = 12 := (hS0 2 _ rfl).1
  have la0_2 : gw_ln S (a0 + 2) = 16 := (hS0 2 _ rfl).2.1
  unfold F_X8_drop at h
  refine hK _ _ _ _ _ _ _ ?_
  rw [fdX8_drop_0]
  simp only [gt_nil, true_and, eq_self, gt_aload_n, gt_rfk, gw_nth, gt_get_r, gt_get_i, gt_get_z, gt_iload_n, gt_ink, gt_iconst, gt_iastore, gt_vret, bkX8_drop_0, ka0_0, ra0_0_0, ra0_0_1, ka0_1, la0_1, ka0_2, la0_2]
  obtain ⟨c_1, h⟩ := gw_ife h
  refine ⟨c_1, ?_⟩
  obtain ⟨μ_2, hμ_2, h⟩ := gw_lt h
  try rw [← hμ_2]
  obtain ⟨c_3, h⟩ := gw_ife h
  refine ⟨c_3, ?_⟩
  obtain ⟨μ_4, hμ_4, h⟩ := gw_lt h
  try rw [← hμ_4]
  cases h
  exact ⟨Nat.le_refl _, Nat.le_refl _, hq⟩
def F_X4_tell (n0 : Nat) (a0 : Nat) (v1 : Int32) (v2 : Int32) (v3 : Int32) (μ : gw_M) : Option (gw_M) := (F_X8_put n0 (a0 + 1) v1 v2 v3 μ).bind (fun (μ_2 : gw_M) => gw_let (gw_up μ_2 a0 3 ((μ_2 a0 3) &&& (((1 : Int32) <<< (v1 &&& 31)) ^^^ ((-1) : Int32)))) (fun (μ_5 : gw_M) => (if 0 ≤ v1 ∧ v1.toNatClampNeg < 16 then gw_let (gw_up μ_5 (a0 + 6) v1.toNatClampNeg (-1)) (fun (μ_7 : gw_M) => some μ_7) else none)))
theorem ok_X4_tell {l : Launch} {x : gw_C} {d : Nat} {S : gw_S} {Q : Option Value → gw_S → gw_M → Prop} {v1 v2 v3 : Int32} {a0 : Nat} {n0 : Nat} {μ : gw_M} {μ'} (hS0 : gw_sh S 4 a0) (h : F_X4_tell n0 a0 v1 v2 v3 μ = some μ') (hq : Q none S μ') : gw_ok l x (d + 2) sgX4_tell 0 0 [.ref a0, .int v1, .int v2, .int v3] S μ Q := by
  refine gw_ok_of stX4_tell (lv0 := [.ref a0, .int v1, .int v2, .int v3]) (Nat.le_of_ble_eq_true rfl) rfl rfl ?_
  intro K hK
  have ka0_0 : gw_kd S a0 = 4 := (hS0 0 _ rfl).1
  have ra0_0_0 : gw_rf S a0 0 = a0 + 1 := (hS0 0 _ rfl).2.2 (0, 1) (by decide)
  have ra0_0_2 : gw_rf S a0 2 = a0 + 6 := (hS0 0 _ rfl).2.2 (2, 6) (by decide)
  have ka0_1 : gw_kd S (a0 + 1) = 8 := (hS0 1 _ rfl).1
  have ka0_6 : gw_kd S (a0 + 6) = 12 := (hS0 6 _ rfl).1
  have la0_6 : gw_ln S (a0 + 6) = 16 := (hS0 6 _ rfl).2.1
  unfold F_X4_tell at h
  refine hK _ _ _ _ _ _ _ ?_
  rw [fdX4_tell_0]
  simp only [gt_nil, true_and, eq_self, gt_aload_n, gt_rfk, gw_nth, gt_get_r, gt_get_i, gt_get_z, gt_iload_n, gt_ink, gt_v0, gt_v1, gt_v2, gt_v3, gt_v4, gt_v5, gt_dup_i, gt_dup_r, gt_iconst, gt_ishl, gt_ixor, gt_iand, gt_put_i, gt_putz, gt_iastore, gt_vret, bkX4_tell_0, ka0_0, ra0_0_0, ra0_0_2, ka0_1, ka0_6, la0_6]
  obtain ⟨μ_2, e_3, h⟩ := gw_bnd h
  refine ⟨rfl, 0, 0, Nat.le_refl _, Nat.le_refl _, ok_X8_put (gw_sub hS0 8 1 (by decide +kernel)) e_3 ?_⟩
  simp only [gt_nil, true_and, eq_self, gt_aload_n, gt_rfk, gw_nth, gt_dup_i, gt_dup_r, gt_get_r, gt_get_i, gt_get_z, gt_iconst, gt_iload_n, gt_ink, gt_ishl, gt_ixor, gt_iand, gt_put_i, gt_putz, gt_iastore, gt_vret, Option.toList, List.cons_append, List.nil_append, Nat.add_zero, ka0_0, ra0_0_0, ra0_0_2, ka0_1, ka0_6, la0_6]
  obtain ⟨μ_5, hμ_5, h⟩ := gw_lt h
  try rw [← hμ_5]
  obtain ⟨c_6, h⟩ := gw_ife h
  refine ⟨c_6, ?_⟩
  obtain ⟨μ_7, hμ_7, h⟩ := gw_lt h
  try rw [← hμ_7]
  cases h
  exact ⟨Nat.le_refl _, Nat.le_refl _, hq⟩
def F_X4_untell (n0 : Nat) (a0 : Nat) (v1 : Int32) (μ : gw_M) : Option (gw_M) := (F_X8_drop n0 (a0 + 1) v1 μ).bind (fun (μ_2 : gw_M) => gw_let (gw_up μ_2 a0 3 ((μ_2 a0 3) &&& (((1 : Int32) <<< (v1 &&& 31)) ^^^ ((-1) : Int32)))) (fun (μ_5 : gw_M) => (if 0 ≤ v1 ∧ v1.toNatClampNeg < 16 then gw_let (gw_up μ_5 (a0 + 6) v1.toNatClampNeg (-1)) (fun (μ_7 : gw_M) => some μ_7) else none)))
theorem ok_X4_untell {l : Launch} {x : gw_C} {d : Nat} {S : gw_S} {Q : Option Value → gw_S → gw_M → Prop} {v1 : Int32} {a0 : Nat} {n0 : Nat} {μ : gw_M} {μ'} (hS0 : gw_sh S 4 a0) (h : F_X4_untell n0 a0 v1 μ = some μ') (hq : Q none S μ') : gw_ok l x (d + 2) sgX4_untell 0 0 [.ref a0, .int v1] S μ Q := by
  refine gw_ok_of stX4_untell (lv0 := [.ref a0, .int v1]) (Nat.le_of_ble_eq_true rfl) rfl rfl ?_
  intro K hK
  have ka0_0 : gw_kd S a0 = 4 := (hS0 0 _ rfl).1
  have ra0_0_0 : gw_rf S a0 0 = a0 + 1 := (hS0 0 _ rfl).2.2 (0, 1) (by decide)
  have ra0_0_2 : gw_rf S a0 2 = a0 + 6 := (hS0 0 _ rfl).2.2 (2, 6) (by decide)
  have ka0_1 : gw_kd S (a0 + 1) = 8 := (hS0 1 _ rfl).1
  have ka0_6 : gw_kd S (a0 + 6) = 12 := (hS0 6 _ rfl).1
  have la0_6 : gw_ln S (a0 + 6) = 16 := (hS0 6 _ rfl).2.1
  unfold F_X4_untell at h
  refine hK _ _ _ _ _ _ _ ?_
  rw [fdX4_untell_0]
  simp only [gt_nil, true_and, eq_self, gt_aload_n, gt_rfk, gw_nth, gt_get_r, gt_get_i, gt_get_z, gt_iload_n, gt_ink, gt_v0, gt_v1, gt_v2, gt_v3, gt_v4, gt_v5, gt_dup_i, gt_dup_r, gt_iconst, gt_ishl, gt_ixor, gt_iand, gt_put_i, gt_putz, gt_iastore, gt_vret, bkX4_untell_0, ka0_0, ra0_0_0, ra0_0_2, ka0_1, ka0_6, la0_6]
  obtain ⟨μ_2, e_3, h⟩ := gw_bnd h
  refine ⟨rfl, 0, 0, Nat.le_refl _, Nat.le_refl _, ok_X8_drop (gw_sub hS0 8 1 (by decide +kernel)) e_3 ?_⟩
  simp only [gt_nil, true_and, eq_self, gt_aload_n, gt_rfk, gw_nth, gt_dup_i, gt_dup_r, gt_get_r, gt_get_i, gt_get_z, gt_iconst, gt_iload_n, gt_ink, gt_ishl, gt_ixor, gt_iand, gt_put_i, gt_putz, gt_iastore, gt_vret, Option.toList, List.cons_append, List.nil_append, Nat.add_zero, ka0_0, ra0_0_0, ra0_0_2, ka0_1, ka0_6, la0_6]
  obtain ⟨μ_5, hμ_5, h⟩ := gw_lt h
  try rw [← hμ_5]
  obtain ⟨c_6, h⟩ := gw_ife h
  refine ⟨c_6, ?_⟩
  obtain ⟨μ_7, hμ_7, h⟩ := gw_lt h
  try rw [← hμ_7]
  cases h
  exact ⟨Nat.le_refl _, Nat.le_refl _, hq⟩
def F_X8_eldest_42 (rec4 : Int32 → Int32 → gw_M → Option (Int32 × gw_M)) (n0 : Nat) (a0 : Nat) (v1 : Int32) (v2 : Int32) (μ : gw_M) : Option (Int32 × gw_M) := gw_let (v2 + 1) (fun (w_1 : Int32) => rec4 v1 w_1 μ)
def F_X8_eldest_40 (rec4 : Int32 → Int32 → gw_M → Option (Int32 × gw_M)) (n0 : Nat) (a0 : Nat) (v2 : Int32) (μ : gw_M) : Option (Int32 × gw_M) := F_X8_eldest_42 rec4 n0 a0 v2 v2 μ
def F_X8_eldest_4 (n0 : Nat) (a0 : Nat) : Nat → Int32 → Int32 → gw_M → Option (Int32 × gw_M)
  | 0, _, _, _ => none
  | n + 1, v1, v2, μ => (if 16 ≤ v2 then some (v1, μ) else (if 0 ≤ v2 ∧ v2.toNatClampNeg < 16 then (if (μ (a0 + 1) v2.toNatClampNeg) = (-1) then F_X8_eldest_42 (F_X8_eldest_4 n0 a0 n) n0 a0 v1 v2 μ else (if v1 = (-1) then F_X8_eldest_40 (F_X8_eldest_4 n0 a0 n) n0 a0 v2 μ else (if 0 ≤ v2 ∧ v2.toNatClampNeg < 16 then (if 0 ≤ v1 ∧ v1.toNatClampNeg < 16 then (if (μ (a0 + 3) v1.toNatClampNeg) ≤ (μ (a0 + 3) v2.toNatClampNeg) then F_X8_eldest_42 (F_X8_eldest_4 n0 a0 n) n0 a0 v1 v2 μ else F_X8_eldest_40 (F_X8_eldest_4 n0 a0 n) n0 a0 v2 μ) else none) else none))) else none))
def F_X8_eldest (n0 : Nat) (a0 : Nat) (μ : gw_M) : Option (Int32 × gw_M) := F_X8_eldest_4 n0 a0 n0 (-1) 0 μ
theorem B_X8_eldest_42 {l : Launch} {x : gw_C} {d : Nat} {S : gw_S} {Q : Option Value → gw_S → gw_M → Prop} {K : Nat → gw_Kt} (hK : gw_cl l x (d + 0) bsX8_eldest Q K) {a0 : Nat} (hS0 : gw_sh S 8 a0) {rec4 : Int32 → Int32 → gw_M → Option (Int32 × gw_M)} (hrec4 : ∀ {v1 v2} {μ : gw_M} {r μ'}, rec4 v1 v2 μ = some (r, μ') → Q (some (.int r)) S μ' → K 4 [.ref a0, .int v1, .int v2] [] S μ 0 0) {n0 : Nat} {v1 v2} {μ : gw_M} {r μ'} (h : F_X8_eldest_42 rec4 n0 a0 v1 v2 μ = some (r, μ')) (hq : Q (some (.int r)) S μ') : K 42 [.ref a0, .int v1, .int v2] [] S μ 0 0 := by
  unfold F_X8_eldest_42 at h
  refine hK _ _ _ _ _ _ _ ?_
  rw [fdX8_eldest_42]
  simp only [gt_nil, true_and, eq_self, gt_iinc, gt_ink, gw_nth, gw_set, gt_goto, bkX8_eldest_42]
  obtain ⟨w_1, hw_1, h⟩ := gw_lt h
  try rw [← hw_1]
  exact hrec4 h hq
theorem B_X8_eldest_40 {l : Launch} {x : gw_C} {d : Nat} {S : gw_S} {Q : Option Value → gw_S → gw_M → Prop} {K : Nat → gw_Kt} (hK : gw_cl l x (d + 0) bsX8_eldest Q K) {a0 : Nat} (hS0 : gw_sh S 8 a0) {rec4 : Int32 → Int32 → gw_M → Option (Int32 × gw_M)} (hrec4 : ∀ {v1 v2} {μ : gw_M} {r μ'}, rec4 v1 v2 μ = some (r, μ') → Q (some (.int r)) S μ' → K 4 [.ref a0, .int v1, .int v2] [] S μ 0 0) {n0 : Nat} {v2} {u1 : Value} {μ : gw_M} {r μ'} (h : F_X8_eldest_40 rec4 n0 a0 v2 μ = some (r, μ')) (hq : Q (some (.int r)) S μ') : K 40 [.ref a0, u1, .int v2] [] S μ 0 0 := by
  unfold F_X8_eldest_40 at h
  refine hK _ _ _ _ _ _ _ ?_
  rw [fdX8_eldest_40]
  simp only [gt_nil, true_and, eq_self, gt_iload_n, gt_ink, gw_nth, gt_istore_n, gw_set, bkX8_eldest_40]
  exact B_X8_eldest_42 hK hS0 hrec4 h hq
theorem B_X8_eldest_4 {l : Launch} {x : gw_C} {d : Nat} {S : gw_S} {Q : Option Value → gw_S → gw_M → Prop} {K : Nat → gw_Kt} (hK : gw_cl l x (d + 0) bsX8_eldest Q K) {a0 : Nat} (hS0 : gw_sh S 8 a0) {n0 : Nat} : ∀ {n : Nat} {v1 v2} {μ : gw_M} {r μ'}, F_X8_eldest_4 n0 a0 n v1 v2 μ = some (r, μ') → Q (some (.int r)) S μ' → K 4 [.ref a0, .int v1, .int v2] [] S μ 0 0 := by
  have ka0_0 : gw_kd S a0 = 8 := (hS0 0 _ rfl).1
  have ra0_0_0 : gw_rf S a0 0 = a0 + 1 := (hS0 0 _ rfl).2.2 (0, 1) (by decide)
  have ra0_0_2 : gw_rf S a0 2 = a0 + 3 := (hS0 0 _ rfl).2.2 (2, 3) (by decide)
  have ka0_1 : gw_kd S (a0 + 1) = 12 := (hS0 1 _ rfl).1
  have la0_1 : gw_ln S (a0 + 1) = 16 := (hS0 1 _ rfl).2.1
  have ka0_3 : gw_kd S (a0 + 3) = 12 := (hS0 3 _ rfl).1
  have la0_3 : gw_ln S (a0 + 3) = 16 := (hS0 3 _ rfl).2.1
  intro n
  induction n with
  | zero => intro v1 v2 μ r μ' h hq; simp [F_X8_eldest_4] at h
  | succ n ih =>
    intro v1 v2 μ r μ' h hq
    simp only [F_X8_eldest_4] at h
    refine hK _ _ _ _ _ _ _ ?_
    rw [fdX8_eldest_4]
    simp only [gt_nil, true_and, eq_self, gt_iload_n, gt_ink, gw_nth, gt_bipush, gt_icmp, gt_aload_n, gt_rfk, gt_get_r, gt_get_i, gt_get_z, gt_iaload, gt_iconst, bkX8_eldest_4, ka0_0, ra0_0_0, ra0_0_2, ka0_1, la0_1, ka0_3, la0_3]
    refine ⟨fun c_1 => ?_, fun c_1 => ?_⟩
    · replace h := gw_ifp h c_1
      refine hK _ _ _ _ _ _ _ ?_
      rw [fdX8_eldest_48]
      simp only [gt_nil, true_and, eq_self, gt_iload_n, gt_ink, gw_nth, gt_iret, gt_retz, bkX8_eldest_48, ka0_0, ra0_0_0, ra0_0_2, ka0_1, la0_1, ka0_3, la0_3]
      cases h
      exact ⟨Nat.le_refl _, Nat.le_refl _, hq⟩
    · replace h := gw_ifn h c_1
      obtain ⟨c_2, h⟩ := gw_ife h
      refine ⟨c_2, ?_⟩
      refine ⟨fun c_3 => ?_, fun c_3 => ?_⟩
      · replace h := gw_ifp h c_3
        exact B_X8_eldest_42 hK hS0 ih h hq
      · replace h := gw_ifn h c_3
        refine ⟨fun c_4 => ?_, fun c_4 => ?_⟩
        · replace h := gw_ifp h c_4
          exact B_X8_eldest_40 hK hS0 ih h hq
        · replace h := gw_ifn h c_4
          obtain ⟨c_5, h⟩ := gw_ife h
          refine ⟨c_5, ?_⟩
          obtain ⟨c_6, h⟩ := gw_ife h
          refine ⟨c_6, ?_⟩
          refine ⟨fun c_7 => ?_, fun c_7 => ?_⟩
          · replace h := gw_ifp h c_7
            exact B_X8_eldest_42 hK hS0 ih h hq
          · replace h := gw_ifn h c_7
            exact B_X8_eldest_40 hK hS0 ih h hq
theorem ok_X8_eldest {l : Launch} {x : gw_C} {d : Nat} {S : gw_S} {Q : Option Value → gw_S → gw_M → Prop} {a0 : Nat} {n0 : Nat} {μ : gw_M} {r μ'} (hS0 : gw_sh S 8 a0) (h : F_X8_eldest n0 a0 μ = some (r, μ')) (hq : Q (some (.int r)) S μ') : gw_ok l x (d + 1) sgX8_eldest 0 0 [.ref a0] S μ Q := by
  refine gw_ok_of stX8_eldest (lv0 := [.ref a0, .retAddr 0, .retAddr 0]) (Nat.le_of_ble_eq_true rfl) rfl rfl ?_
  intro K hK
  unfold F_X8_eldest at h
  refine hK _ _ _ _ _ _ _ ?_
  rw [fdX8_eldest_0]
  simp only [gt_nil, true_and, eq_self, gt_iconst, gt_istore_n, gw_set, bkX8_eldest_0]
  exact B_X8_eldest_4 hK hS0 h hq
def F_X8_dropEldest (n0 : Nat) (a0 : Nat) (μ : gw_M) : Option (gw_M) := (F_X8_eldest n0 a0 μ).bind (fun (z_4 : Int32 × gw_M) => (if z_4.1 = (-1) then some z_4.2 else (F_X8_drop n0 a0 z_4.1 z_4.2).bind (fun (μ_7 : gw_M) => some μ_7)))
theorem ok_X8_dropEldest {l : Launch} {x : gw_C} {d : Nat} {S : gw_S} {Q : Option Value → gw_S → gw_M → Prop} {a0 : Nat} {n0 : Nat} {μ : gw_M} {μ'} (hS0 : gw_sh S 8 a0) (h : F_X8_dropEldest n0 a0 μ = some μ') (hq : Q none S μ') : gw_ok l x (d + 2) sgX8_dropEldest 0 0 [.ref a0] S μ Q := by
  refine gw_ok_of stX8_dropEldest (lv0 := [.ref a0, .retAddr 0]) (Nat.le_of_ble_eq_true rfl) rfl rfl ?_
  intro K hK
  have ka0_0 : gw_kd S a0 = 8 := (hS0 0 _ rfl).1
  unfold F_X8_dropEldest at h
  refine hK _ _ _ _ _ _ _ ?_
  rw [fdX8_dropEldest_0]
  simp only [gt_nil, true_and, eq_self, gt_aload_n, gt_rfk, gw_nth, gt_v0, gt_v1, gt_v2, gt_v3, gt_v4, gt_v5, gt_istore_n, gw_set, gt_iload_n, gt_ink, gt_iconst, gt_icmp, bkX8_dropEldest_0, ka0_0]
  obtain ⟨⟨r_1, μ_2⟩, e_3, h⟩ := gw_bnd h
  refine ⟨rfl, 0, 0, Nat.le_refl _, Nat.le_refl _, ok_X8_eldest hS0 e_3 ?_⟩
  dsimp only at h
  simp only [gt_nil, true_and, eq_self, gt_istore_n, gw_set, gt_iload_n, gt_ink, gw_nth, gt_iconst, gt_icmp, gt_aload_n, gt_rfk, gt_v0, gt_v1, gt_v2, gt_v3, gt_v4, gt_v5, Option.toList, List.cons_append, List.nil_append, Nat.add_zero, ka0_0]
  refine ⟨fun c_5 => ?_, fun c_5 => ?_⟩
  · replace h := gw_ifp h c_5
    refine hK _ _ _ _ _ _ _ ?_
    rw [fdX8_dropEldest_15]
    simp only [gt_nil, true_and, eq_self, gt_vret, bkX8_dropEldest_15, ka0_0]
    cases h
    exact ⟨Nat.le_refl _, Nat.le_refl _, hq⟩
  · replace h := gw_ifn h c_5
    obtain ⟨μ_7, e_8, h⟩ := gw_bnd h
    refine ⟨rfl, 0, 0, Nat.le_refl _, Nat.le_refl _, ok_X8_drop hS0 e_8 ?_⟩
    simp only [gt_nil, true_and, eq_self, Option.toList, List.cons_append, List.nil_append, Nat.add_zero, ka0_0]
    refine hK _ _ _ _ _ _ _ ?_
    rw [fdX8_dropEldest_15]
    simp only [gt_nil, true_and, eq_self, gt_vret, bkX8_dropEldest_15, ka0_0]
    cases h
    exact ⟨Nat.le_refl _, Nat.le_refl _, hq⟩
def F_X4_rightsGiven_16 (n0 : Nat) (a0 : Nat) (v1 : Int32) (s0 : Int32) (μ : gw_M) : Option (Int32 × gw_M) := (if s0 = 0 then (if 0 ≤ v1 ∧ v1.toNatClampNeg < 16 then some ((μ (a0 + 3) v1.toNatClampNeg), μ) else none) else (if 0 ≤ v1 ∧ v1.toNatClampNeg < 16 then some (((μ (a0 + 3) v1.toNatClampNeg) &&& ((-3) : Int32)), μ) else none))
def F_X4_rightsGiven (n0 : Nat) (a0 : Nat) (v1 : Int32) (μ : gw_M) : Option (Int32 × gw_M) := (if (((μ a0 3) >>> (v1 &&& 31)) &&& (1 : Int32)) = 0 then F_X4_rightsGiven_16 n0 a0 v1 0 μ else F_X4_rightsGiven_16 n0 a0 v1 1 μ)
theorem B_X4_rightsGiven_16 {l : Launch} {x : gw_C} {d : Nat} {S : gw_S} {Q : Option Value → gw_S → gw_M → Prop} {K : Nat → gw_Kt} (hK : gw_cl l x (d + 0) bsX4_rightsGiven Q K) {a0 : Nat} (hS0 : gw_sh S 4 a0) {n0 : Nat} {v1 s0} {u2 : Value} {μ : gw_M} {r μ'} (h : F_X4_rightsGiven_16 n0 a0 v1 s0 μ = some (r, μ')) (hq : Q (some (.int r)) S μ') : K 16 [.ref a0, .int v1, u2] [.int s0] S μ 0 0 := by
  have ka0_0 : gw_kd S a0 = 4 := (hS0 0 _ rfl).1
  have ra0_0_0 : gw_rf S a0 0 = a0 + 1 := (hS0 0 _ rfl).2.2 (0, 1) (by decide)
  have ka0_1 : gw_kd S (a0 + 1) = 8 := (hS0 1 _ rfl).1
  have ra0_1_1 : gw_rf S (a0 + 1) 1 = a0 + 3 := (hS0 1 _ rfl).2.2 (1, 3) (by decide)
  have ka0_3 : gw_kd S (a0 + 3) = 12 := (hS0 3 _ rfl).1
  have la0_3 : gw_ln S (a0 + 3) = 16 := (hS0 3 _ rfl).2.1
  unfold F_X4_rightsGiven_16 at h
  refine hK _ _ _ _ _ _ _ ?_
  rw [fdX4_rightsGiven_16]
  simp only [gt_nil, true_and, eq_self, gt_istore_n, gw_set, gt_iload_n, gt_ink, gw_nth, gt_if, gt_aload_n, gt_rfk, gt_get_r, gt_get_i, gt_get_z, gt_iaload, gt_bipush, gt_iand, gt_goto, bkX4_rightsGiven_16, ka0_0, ra0_0_0, ka0_1, ra0_1_1, ka0_3, la0_3]
  refine ⟨fun c_1 => ?_, fun c_1 => ?_⟩
  · replace h := gw_ifp h c_1
    refine hK _ _ _ _ _ _ _ ?_
    rw [fdX4_rightsGiven_36]
    simp only [gt_nil, true_and, eq_self, gt_aload_n, gt_rfk, gw_nth, gt_get_r, gt_get_i, gt_get_z, gt_iload_n, gt_ink, gt_iaload, bkX4_rightsGiven_36, ka0_0, ra0_0_0, ka0_1, ra0_1_1, ka0_3, la0_3]
    obtain ⟨c_2, h⟩ := gw_ife h
    refine ⟨c_2, ?_⟩
    refine hK _ _ _ _ _ _ _ ?_
    rw [fdX4_rightsGiven_45]
    simp only [gt_nil, true_and, eq_self, gt_iret, gt_retz, bkX4_rightsGiven_45, ka0_0, ra0_0_0, ka0_1, ra0_1_1, ka0_3, la0_3]
    cases h
    exact ⟨Nat.le_refl _, Nat.le_refl _, hq⟩
  · replace h := gw_ifn h c_1
    obtain ⟨c_3, h⟩ := gw_ife h
    refine ⟨c_3, ?_⟩
    refine hK _ _ _ _ _ _ _ ?_
    rw [fdX4_rightsGiven_45]
    simp only [gt_nil, true_and, eq_self, gt_iret, gt_retz, bkX4_rightsGiven_45, ka0_0, ra0_0_0, ka0_1, ra0_1_1, ka0_3, la0_3]
    cases h
    exact ⟨Nat.le_refl _, Nat.le_refl _, hq⟩
theorem ok_X4_rightsGiven {l : Launch} {x : gw_C} {d : Nat} {S : gw_S} {Q : Option Value → gw_S → gw_M → Prop} {v1 : Int32} {a0 : Nat} {n0 : Nat} {μ : gw_M} {r μ'} (hS0 : gw_sh S 4 a0) (h : F_X4_rightsGiven n0 a0 v1 μ = some (r, μ')) (hq : Q (some (.int r)) S μ') : gw_ok l x (d + 1) sgX4_rightsGiven 0 0 [.ref a0, .int v1] S μ Q := by
  refine gw_ok_of stX4_rightsGiven (lv0 := [.ref a0, .int v1, .retAddr 0]) (Nat.le_of_ble_eq_true rfl) rfl rfl ?_
  intro K hK
  have ka0_0 : gw_kd S a0 = 4 := (hS0 0 _ rfl).1
  unfold F_X4_rightsGiven at h
  refine hK _ _ _ _ _ _ _ ?_
  rw [fdX4_rightsGiven_0]
  simp only [gt_nil, true_and, eq_self, gt_aload_n, gt_rfk, gw_nth, gt_get_r, gt_get_i, gt_get_z, gt_iload_n, gt_ink, gt_ishr, gt_iconst, gt_iand, gt_if, gt_goto, bkX4_rightsGiven_0, ka0_0]
  refine ⟨fun c_1 => ?_, fun c_1 => ?_⟩
  · replace h := gw_ifp h c_1
    refine hK _ _ _ _ _ _ _ ?_
    rw [fdX4_rightsGiven_15]
    simp only [gt_nil, true_and, eq_self, gt_iconst, bkX4_rightsGiven_15, ka0_0]
    exact B_X4_rightsGiven_16 hK hS0 h hq
  · replace h := gw_ifn h c_1
    exact B_X4_rightsGiven_16 hK hS0 h hq
def F_X8_has (n0 : Nat) (a0 : Nat) (v1 : Int32) (μ : gw_M) : Option (Int32 × gw_M) := (if 0 ≤ v1 ∧ v1.toNatClampNeg < 16 then (if (μ (a0 + 1) v1.toNatClampNeg) = (-1) then some (0, μ) else some (1, μ)) else none)
theorem ok_X8_has {l : Launch} {x : gw_C} {d : Nat} {S : gw_S} {Q : Option Value → gw_S → gw_M → Prop} {v1 : Int32} {a0 : Nat} {n0 : Nat} {μ : gw_M} {r μ'} (hS0 : gw_sh S 8 a0) (h : F_X8_has n0 a0 v1 μ = some (r, μ')) (hq : ((r = 0 ∨ r = 1) → Q (some (.int r)) S μ')) : gw_ok l x (d + 1) sgX8_has 0 0 [.ref a0, .int v1] S μ Q := by
  refine gw_ok_of stX8_has (lv0 := [.ref a0, .int v1]) (Nat.le_of_ble_eq_true rfl) rfl rfl ?_
  intro K hK
  have ka0_0 : gw_kd S a0 = 8 := (hS0 0 _ rfl).1
  have ra0_0_0 : gw_rf S a0 0 = a0 + 1 := (hS0 0 _ rfl).2.2 (0, 1) (by decide)
  have ka0_1 : gw_kd S (a0 + 1) = 12 := (hS0 1 _ rfl).1
  have la0_1 : gw_ln S (a0 + 1) = 16 := (hS0 1 _ rfl).2.1
  unfold F_X8_has at h
  refine hK _ _ _ _ _ _ _ ?_
  rw [fdX8_has_0]
  simp only [gt_nil, true_and, eq_self, gt_aload_n, gt_rfk, gw_nth, gt_get_r, gt_get_i, gt_get_z, gt_iload_n, gt_ink, gt_iaload, gt_iconst, gt_icmp, gt_goto, bkX8_has_0, ka0_0, ra0_0_0, ka0_1, la0_1]
  obtain ⟨c_1, h⟩ := gw_ife h
  refine ⟨c_1, ?_⟩
  refine ⟨fun c_2 => ?_, fun c_2 => ?_⟩
  · replace h := gw_ifp h c_2
    refine hK _ _ _ _ _ _ _ ?_
    rw [fdX8_has_14]
    simp only [gt_nil, true_and, eq_self, gt_iconst, bkX8_has_14, ka0_0, ra0_0_0, ka0_1, la0_1]
    refine hK _ _ _ _ _ _ _ ?_
    rw [fdX8_has_15]
    simp only [gt_nil, true_and, eq_self, gt_iret, gt_retz, bkX8_has_15, ka0_0, ra0_0_0, ka0_1, la0_1]
    cases h
    exact ⟨(Or.inl rfl), Nat.le_refl _, Nat.le_refl _, hq (Or.inl rfl)⟩
  · replace h := gw_ifn h c_2
    refine hK _ _ _ _ _ _ _ ?_
    rw [fdX8_has_15]
    simp only [gt_nil, true_and, eq_self, gt_iret, gt_retz, bkX8_has_15, ka0_0, ra0_0_0, ka0_1, la0_1]
    cases h
    exact ⟨(Or.inr rfl), Nat.le_refl _, Nat.le_refl _, hq (Or.inr rfl)⟩
def F_X4_areLike_40 (n0 : Nat) (a0 : Nat) (μ : gw_M) : Option (Int32 × gw_M) := some (0, μ)
def F_X4_areLike (n0 : Nat) (a0 : Nat) (v1 : Int32) (v2 : Int32) (μ : gw_M) : Option (Int32 × gw_M) := (F_X4_framesLedTo n0 a0 μ).bind (fun (z_4 : Int32 × gw_M) => (F_X10_hasBit n0 z_4.1 v1 z_4.2).bind (fun (z_8 : Int32 × gw_M) => (if z_8.1 = 0 then F_X4_areLike_40 n0 a0 z_8.2 else (F_X10_hasBit n0 z_4.1 v2 z_8.2).bind (fun (z_13 : Int32 × gw_M) => (if z_13.1 = 0 then F_X4_areLike_40 n0 a0 z_13.2 else (if 0 ≤ v1 ∧ v1.toNatClampNeg < 10 then (if 0 ≤ v2 ∧ v2.toNatClampNeg < 10 then (if ¬ (z_13.2 (a0 + 5) v1.toNatClampNeg) = (z_13.2 (a0 + 5) v2.toNatClampNeg) then F_X4_areLike_40 n0 a0 z_13.2 else some (1, z_13.2)) else none) else none))))))
theorem B_X4_areLike_40 {l : Launch} {x : gw_C} {d : Nat} {S : gw_S} {Q : Option Value → gw_S → gw_M → Prop} {K : Nat → gw_Kt} (hK : gw_cl l x (d + 1) bsX4_areLike Q K) {a0 : Nat} (hS0 : gw_sh S 4 a0) {n0 : Nat}  {u1 u2 u3 : Value} {μ : gw_M} {r μ'} (h : F_X4_areLike_40 n0 a0 μ = some (r, μ')) (hq : ((r = 0 ∨ r = 1) → Q (some (.int r)) S μ')) : K 40 [.ref a0, u1, u2, u3] [] S μ 0 0 := by
  unfold F_X4_areLike_40 at h
  refine hK _ _ _ _ _ _ _ ?_
  rw [fdX4_areLike_40]
  simp only [gt_nil, true_and, eq_self, gt_iconst, bkX4_areLike_40]
  refine hK _ _ _ _ _ _ _ ?_
  rw [fdX4_areLike_41]
  simp only [gt_nil, true_and, eq_self, gt_iret, gt_retz, bkX4_areLike_41]
  cases h
  exact ⟨(Or.inl rfl), Nat.le_refl _, Nat.le_refl _, hq (Or.inl rfl)⟩
theorem ok_X4_areLike {l : Launch} {x : gw_C} {d : Nat} {S : gw_S} {Q : Option Value → gw_S → gw_M → Prop} {v1 v2 : Int32} {a0 : Nat} {n0 : Nat} {μ : gw_M} {r μ'} (hS0 : gw_sh S 4 a0) (h : F_X4_areLike n0 a0 v1 v2 μ = some (r, μ')) (hq : ((r = 0 ∨ r = 1) → Q (some (.int r)) S μ')) : gw_ok l x (d + 2) sgX4_areLike 0 0 [.ref a0, .int v1, .int v2] S μ Q := by
  refine gw_ok_of stX4_areLike (lv0 := [.ref a0, .int v1, .int v2, .retAddr 0]) (Nat.le_of_ble_eq_true rfl) rfl rfl ?_
  intro K hK
  have ka0_0 : gw_kd S a0 = 4 := (hS0 0 _ rfl).1
  have ra0_0_1 : gw_rf S a0 1 = a0 + 5 := (hS0 0 _ rfl).2.2 (1, 5) (by decide)
  have ka0_5 : gw_kd S (a0 + 5) = 12 := (hS0 5 _ rfl).1
  have la0_5 : gw_ln S (a0 + 5) = 10 := (hS0 5 _ rfl).2.1
  unfold F_X4_areLike at h
  refine hK _ _ _ _ _ _ _ ?_
  rw [fdX4_areLike_0]
  simp only [gt_nil, true_and, eq_self, gt_aload_n, gt_rfk, gw_nth, gt_v0, gt_v1, gt_v2, gt_v3, gt_v4, gt_v5, gt_istore_n, gw_set, gt_iload_n, gt_ink, gt_s1_0, gt_s2_0, gt_s3_0, gt_s4_0, gt_s1_1, gt_s2_1, gt_s3_1, gt_s4_1, gt_acpy, gt_if, gt_get_r, gt_get_i, gt_get_z, gt_iaload, gt_icmp, gt_iconst, gt_goto, bkX4_areLike_0, ka0_0, ra0_0_1, ka0_5, la0_5]
  obtain ⟨⟨r_1, μ_2⟩, e_3, h⟩ := gw_bnd h
  refine ⟨rfl, 0, 0, Nat.le_refl _, Nat.le_refl _, ok_X4_framesLedTo hS0 e_3 ?_⟩
  dsimp only at h
  simp only [gt_nil, true_and, eq_self, gt_istore_n, gw_set, gt_iload_n, gt_ink, gw_nth, gt_s1_0, gt_s2_0, gt_s3_0, gt_s4_0, gt_s1_1, gt_s2_1, gt_s3_1, gt_s4_1, gt_acpy, gt_if, gt_aload_n, gt_rfk, gt_get_r, gt_get_i, gt_get_z, gt_iaload, gt_icmp, gt_iconst, gt_goto, Option.toList, List.cons_append, List.nil_append, Nat.add_zero, ka0_0, ra0_0_1, ka0_5, la0_5]
  obtain ⟨⟨r_5, μ_6⟩, e_7, h⟩ := gw_bnd h
  refine ⟨rfl, 0, 0, Nat.le_refl _, Nat.le_refl _, ok_X10_hasBit e_7 ?_⟩
  intro hbr_5
  dsimp only at h
  simp only [gt_nil, true_and, eq_self, gt_if, gt_iload_n, gt_ink, gw_nth, gt_s1_0, gt_s2_0, gt_s3_0, gt_s4_0, gt_s1_1, gt_s2_1, gt_s3_1, gt_s4_1, gt_acpy, gt_aload_n, gt_rfk, gt_get_r, gt_get_i, gt_get_z, gt_iaload, gt_icmp, gt_iconst, gt_goto, Option.toList, List.cons_append, List.nil_append, Nat.add_zero, ka0_0, ra0_0_1, ka0_5, la0_5]
  refine ⟨fun c_9 => ?_, fun c_9 => ?_⟩
  · replace h := gw_ifp h c_9
    exact B_X4_areLike_40 hK hS0 h hq
  · replace h := gw_ifn h c_9
    obtain ⟨⟨r_10, μ_11⟩, e_12, h⟩ := gw_bnd h
    refine ⟨rfl, 0, 0, Nat.le_refl _, Nat.le_refl _, ok_X10_hasBit e_12 ?_⟩
    intro hbr_10
    dsimp only at h
    simp only [gt_nil, true_and, eq_self, gt_if, gt_aload_n, gt_rfk, gw_nth, gt_get_r, gt_get_i, gt_get_z, gt_iload_n, gt_ink, gt_iaload, gt_icmp, gt_iconst, gt_goto, Option.toList, List.cons_append, List.nil_append, Nat.add_zero, ka0_0, ra0_0_1, ka0_5, la0_5]
    refine ⟨fun c_14 => ?_, fun c_14 => ?_⟩
    · replace h := gw_ifp h c_14
      exact B_X4_areLike_40 hK hS0 h hq
    · replace h := gw_ifn h c_14
      obtain ⟨c_15, h⟩ := gw_ife h
      refine ⟨c_15, ?_⟩
      obtain ⟨c_16, h⟩ := gw_ife h
      refine ⟨c_16, ?_⟩
      refine ⟨fun c_17 => ?_, fun c_17 => ?_⟩
      · replace h := gw_ifp h c_17
        exact B_X4_areLike_40 hK hS0 h hq
      · replace h := gw_ifn h c_17
        refine hK _ _ _ _ _ _ _ ?_
        rw [fdX4_areLike_41]
        simp only [gt_nil, true_and, eq_self, gt_iret, gt_retz, bkX4_areLike_41, ka0_0, ra0_0_1, ka0_5, la0_5]
        cases h
        exact ⟨(Or.inr rfl), Nat.le_refl _, Nat.le_refl _, hq (Or.inr rfl)⟩
def F_X4_merge_58 (rec5 : Int32 → Int32 → Int32 → Int32 → gw_M → Option (Int32 × gw_M)) (n0 : Nat) (a0 : Nat) (v1 : Int32) (v2 : Int32) (v3 : Int32) (v4 : Int32) (μ : gw_M) : Option (Int32 × gw_M) := gw_let (v4 + 1) (fun (w_1 : Int32) => rec5 v1 v2 v3 w_1 μ)
def F_X4_merge_37 (rec5 : Int32 → Int32 → Int32 → Int32 → gw_M → Option (Int32 × gw_M)) (n0 : Nat) (a0 : Nat) (v1 : Int32) (v2 : Int32) (v3 : Int32) (v4 : Int32) (μ : gw_M) : Option (Int32 × gw_M) := (if 0 ≤ v4 ∧ v4.toNatClampNeg < 16 then (if ¬ (μ (a0 + 2) v4.toNatClampNeg) = v1 then F_X4_merge_58 rec5 n0 a0 v1 v2 v3 v4 μ else gw_let ((v3 ||| ((1 : Int32) <<< (v4 &&& 31)))) (fun (w_3 : Int32) => F_X4_merge_58 rec5 n0 a0 v1 v2 w_3 v4 μ)) else none)
def F_X4_merge_5 (n0 : Nat) (a0 : Nat) : Nat → Int32 → Int32 → Int32 → Int32 → gw_M → Option (Int32 × gw_M)
  | 0, _, _, _, _, _ => none
  | n + 1, v1, v2, v3, v4, μ => (if 16 ≤ v4 then gw_let (gw_up μ a0 3 ((μ a0 3) ||| v3)) (fun (μ_2 : gw_M) => some (v3, μ_2)) else (if 0 ≤ v4 ∧ v4.toNatClampNeg < 16 then (if ¬ (μ (a0 + 2) v4.toNatClampNeg) = v2 then F_X4_merge_37 (F_X4_merge_5 n0 a0 n) n0 a0 v1 v2 v3 v4 μ else (if 0 ≤ v4 ∧ v4.toNatClampNeg < 16 then gw_let (gw_up μ (a0 + 2) v4.toNatClampNeg v1) (fun (μ_6 : gw_M) => F_X4_merge_37 (F_X4_merge_5 n0 a0 n) n0 a0 v1 v2 v3 v4 μ_6) else none)) else none))
def F_X4_merge (n0 : Nat) (a0 : Nat) (v1 : Int32) (v2 : Int32) (μ : gw_M) : Option (Int32 × gw_M) := F_X4_merge_5 n0 a0 n0 v1 v2 0 0 μ
theorem B_X4_merge_58 {l : Launch} {x : gw_C} {d : Nat} {S : gw_S} {Q : Option Value → gw_S → gw_M → Prop} {K : Nat → gw_Kt} (hK : gw_cl l x (d + 0) bsX4_merge Q K) {a0 : Nat} (hS0 : gw_sh S 4 a0) {rec5 : Int32 → Int32 → Int32 → Int32 → gw_M → Option (Int32 × gw_M)} (hrec5 : ∀ {v1 v2 v3 v4} {μ : gw_M} {r μ'}, rec5 v1 v2 v3 v4 μ = some (r, μ') → Q (some (.int r)) S μ' → K 5 [.ref a0, .int v1, .int v2, .int v3, .int v4] [] S μ 0 0) {n0 : Nat} {v1 v2 v3 v4} {μ : gw_M} {r μ'} (h : F_X4_merge_58 rec5 n0 a0 v1 v2 v3 v4 μ = some (r, μ')) (hq : Q (some (.int r)) S μ') : K 58 [.ref a0, .int v1, .int v2, .int v3, .int v4] [] S μ 0 0 := by
  unfold F_X4_merge_58 at h
  refine hK _ _ _ _ _ _ _ ?_
  rw [fdX4_merge_58]
  simp only [gt_nil, true_and, eq_self, gt_iinc, gt_ink, gw_nth, gw_set, gt_goto, bkX4_merge_58]
  obtain ⟨w_1, hw_1, h⟩ := gw_lt h
  try rw [← hw_1]
  exact hrec5 h hq
theorem B_X4_merge_37 {l : Launch} {x : gw_C} {d : Nat} {S : gw_S} {Q : Option Value → gw_S → gw_M → Prop} {K : Nat → gw_Kt} (hK : gw_cl l x (d + 0) bsX4_merge Q K) {a0 : Nat} (hS0 : gw_sh S 4 a0) {rec5 : Int32 → Int32 → Int32 → Int32 → gw_M → Option (Int32 × gw_M)} (hrec5 : ∀ {v1 v2 v3 v4} {μ : gw_M} {r μ'}, rec5 v1 v2 v3 v4 μ = some (r, μ') → Q (some (.int r)) S μ' → K 5 [.ref a0, .int v1, .int v2, .int v3, .int v4] [] S μ 0 0) {n0 : Nat} {v1 v2 v3 v4} {μ : gw_M} {r μ'} (h : F_X4_merge_37 rec5 n0 a0 v1 v2 v3 v4 μ = some (r, μ')) (hq : Q (some (.int r)) S μ') : K 37 [.ref a0, .int v1, .int v2, .int v3, .int v4] [] S μ 0 0 := by
  have ka0_0 : gw_kd S a0 = 4 := (hS0 0 _ rfl).1
  have ra0_0_0 : gw_rf S a0 0 = a0 + 1 := (hS0 0 _ rfl).2.2 (0, 1) (by decide)
  have ka0_1 : gw_kd S (a0 + 1) = 8 := (hS0 1 _ rfl).1
  have ra0_1_0 : gw_rf S (a0 + 1) 0 = a0 + 2 := (hS0 1 _ rfl).2.2 (0, 2) (by decide)
  have ka0_2 : gw_kd S (a0 + 2) = 12 := (hS0 2 _ rfl).1
  have la0_2 : gw_ln S (a0 + 2) = 16 := (hS0 2 _ rfl).2.1
  unfold F_X4_merge_37 at h
  refine hK _ _ _ _ _ _ _ ?_
  rw [fdX4_merge_37]
  simp only [gt_nil, true_and, eq_self, gt_aload_n, gt_rfk, gw_nth, gt_get_r, gt_get_i, gt_get_z, gt_iload, gt_ink, gt_iaload, gt_iload_n, gt_icmp, gt_iconst, gt_ishl, gt_ior, gt_istore_n, gw_set, bkX4_merge_37, ka0_0, ra0_0_0, ka0_1, ra0_1_0, ka0_2, la0_2]
  obtain ⟨c_1, h⟩ := gw_ife h
  refine ⟨c_1, ?_⟩
  refine ⟨fun c_2 => ?_, fun c_2 => ?_⟩
  · replace h := gw_ifp h c_2
    exact B_X4_merge_58 hK hS0 hrec5 h hq
  · replace h := gw_ifn h c_2
    obtain ⟨w_3, hw_3, h⟩ := gw_lt h
    try rw [← hw_3]
    exact B_X4_merge_58 hK hS0 hrec5 h hq
theorem B_X4_merge_5 {l : Launch} {x : gw_C} {d : Nat} {S : gw_S} {Q : Option Value → gw_S → gw_M → Prop} {K : Nat → gw_Kt} (hK : gw_cl l x (d + 0) bsX4_merge Q K) {a0 : Nat} (hS0 : gw_sh S 4 a0) {n0 : Nat} : ∀ {n : Nat} {v1 v2 v3 v4} {μ : gw_M} {r μ'}, F_X4_merge_5 n0 a0 n v1 v2 v3 v4 μ = some (r, μ') → Q (some (.int r)) S μ' → K 5 [.ref a0, .int v1, .int v2, .int v3, .int v4] [] S μ 0 0 := by
  have ka0_0 : gw_kd S a0 = 4 := (hS0 0 _ rfl).1
  have ra0_0_0 : gw_rf S a0 0 = a0 + 1 := (hS0 0 _ rfl).2.2 (0, 1) (by decide)
  have ka0_1 : gw_kd S (a0 + 1) = 8 := (hS0 1 _ rfl).1
  have ra0_1_0 : gw_rf S (a0 + 1) 0 = a0 + 2 := (hS0 1 _ rfl).2.2 (0, 2) (by decide)
  have ka0_2 : gw_kd S (a0 + 2) = 12 := (hS0 2 _ rfl).1
  have la0_2 : gw_ln S (a0 + 2) = 16 := (hS0 2 _ rfl).2.1
  intro n
  induction n with
  | zero => intro v1 v2 v3 v4 μ r μ' h hq; simp [F_X4_merge_5] at h
  | succ n ih =>
    intro v1 v2 v3 v4 μ r μ' h hq
    simp only [F_X4_merge_5] at h
    refine hK _ _ _ _ _ _ _ ?_
    rw [fdX4_merge_5]
    simp only [gt_nil, true_and, eq_self, gt_iload, gt_ink, gw_nth, gt_bipush, gt_icmp, gt_aload_n, gt_rfk, gt_get_r, gt_get_i, gt_get_z, gt_iaload, gt_iload_n, gt_iastore, bkX4_merge_5, ka0_0, ra0_0_0, ka0_1, ra0_1_0, ka0_2, la0_2]
    refine ⟨fun c_1 => ?_, fun c_1 => ?_⟩
    · replace h := gw_ifp h c_1
      refine hK _ _ _ _ _ _ _ ?_
      rw [fdX4_merge_64]
      simp only [gt_nil, true_and, eq_self, gt_aload_n, gt_rfk, gw_nth, gt_dup_i, gt_dup_r, gt_get_r, gt_get_i, gt_get_z, gt_iload_n, gt_ink, gt_ior, gt_put_i, gt_putz, gt_iret, gt_retz, bkX4_merge_64, ka0_0, ra0_0_0, ka0_1, ra0_1_0, ka0_2, la0_2]
      obtain ⟨μ_2, hμ_2, h⟩ := gw_lt h
      try rw [← hμ_2]
      cases h
      exact ⟨Nat.le_refl _, Nat.le_refl _, hq⟩
    · replace h := gw_ifn h c_1
      obtain ⟨c_3, h⟩ := gw_ife h
      refine ⟨c_3, ?_⟩
      refine ⟨fun c_4 => ?_, fun c_4 => ?_⟩
      · replace h := gw_ifp h c_4
        exact B_X4_merge_37 hK hS0 ih h hq
      · replace h := gw_ifn h c_4
        obtain ⟨c_5, h⟩ := gw_ife h
        refine ⟨c_5, ?_⟩
        obtain ⟨μ_6, hμ_6, h⟩ := gw_lt h
        try rw [← hμ_6]
        exact B_X4_merge_37 hK hS0 ih h hq
theorem ok_X4_merge {l : Launch} {x : gw_C} {d : Nat} {S : gw_S} {Q : Option Value → gw_S → gw_M → Prop} {v1 v2 : Int32} {a0 : Nat} {n0 : Nat} {μ : gw_M} {r μ'} (hS0 : gw_sh S 4 a0) (h : F_X4_merge n0 a0 v1 v2 μ = some (r, μ')) (hq : Q (some (.int r)) S μ') : gw_ok l x (d + 1) sgX4_merge 0 0 [.ref a0, .int v1, .int v2] S μ Q := by
  refine gw_ok_of stX4_merge (lv0 := [.ref a0, .int v1, .int v2, .retAddr 0, .retAddr 0]) (Nat.le_of_ble_eq_true rfl) rfl rfl ?_
  intro K hK
  unfold F_X4_merge at h
  refine hK _ _ _ _ _ _ _ ?_
  rw [fdX4_merge_0]
  simp only [gt_nil, true_and, eq_self, gt_iconst, gt_istore_n, gw_set, gt_istore, bkX4_merge_0]
  exact B_X4_merge_5 hK hS0 h hq
def F_X10_lowestOutside_2 (n0 : Nat) : Nat → Int32 → Int32 → gw_M → Option (Int32 × gw_M)
  | 0, _, _, _ => none
  | n + 1, v0, v1, μ => (if 10 ≤ v1 then some ((-1), μ) else (if ¬ ((v0 >>> (v1 &&& 31)) &&& (1 : Int32)) = 0 then gw_let (v1 + 1) (fun (w_3 : Int32) => F_X10_lowestOutside_2 n0 n v0 w_3 μ) else some (v1, μ)))
def F_X10_lowestOutside (n0 : Nat) (v0 : Int32) (μ : gw_M) : Option (Int32 × gw_M) := F_X10_lowestOutside_2 n0 n0 v0 0 μ
theorem B_X10_lowestOutside_2 {l : Launch} {x : gw_C} {d : Nat} {S : gw_S} {Q : Option Value → gw_S → gw_M → Prop} {K : Nat → gw_Kt} (hK : gw_cl l x (d + 0) bsX10_lowestOutside Q K) {n0 : Nat} : ∀ {n : Nat} {v0 v1} {μ : gw_M} {r μ'}, F_X10_lowestOutside_2 n0 n v0 v1 μ = some (r, μ') → Q (some (.int r)) S μ' → K 2 [.int v0, .int v1] [] S μ 0 0 := by
  intro n
  induction n with
  | zero => intro v0 v1 μ r μ' h hq; simp [F_X10_lowestOutside_2] at h
  | succ n ih =>
    intro v0 v1 μ r μ' h hq
    simp only [F_X10_lowestOutside_2] at h
    refine hK _ _ _ _ _ _ _ ?_
    rw [fdX10_lowestOutside_2]
    simp only [gt_nil, true_and, eq_self, gt_iload_n, gt_ink, gw_nth, gt_bipush, gt_icmp, gt_ishr, gt_iconst, gt_iand, gt_if, gt_iret, gt_retz, bkX10_lowestOutside_2]
    refine ⟨fun c_1 => ?_, fun c_1 => ?_⟩
    · replace h := gw_ifp h c_1
      refine hK _ _ _ _ _ _ _ ?_
      rw [fdX10_lowestOutside_24]
      simp only [gt_nil, true_and, eq_self, gt_iconst, gt_iret, gt_retz, bkX10_lowestOutside_24]
      cases h
      exact ⟨Nat.le_refl _, Nat.le_refl _, hq⟩
    · replace h := gw_ifn h c_1
      refine ⟨fun c_2 => ?_, fun c_2 => ?_⟩
      · replace h := gw_ifp h c_2
        refine hK _ _ _ _ _ _ _ ?_
        rw [fdX10_lowestOutside_18]
        simp only [gt_nil, true_and, eq_self, gt_iinc, gt_ink, gw_nth, gw_set, gt_goto, bkX10_lowestOutside_18]
        obtain ⟨w_3, hw_3, h⟩ := gw_lt h
        try rw [← hw_3]
        exact ih h hq
      · replace h := gw_ifn h c_2
        cases h
        exact ⟨Nat.le_refl _, Nat.le_refl _, hq⟩
theorem ok_X10_lowestOutside {l : Launch} {x : gw_C} {d : Nat} {S : gw_S} {Q : Option Value → gw_S → gw_M → Prop} {v0 : Int32} {n0 : Nat} {μ : gw_M} {r μ'} (h : F_X10_lowestOutside n0 v0 μ = some (r, μ')) (hq : Q (some (.int r)) S μ') : gw_ok l x (d + 1) sgX10_lowestOutside 0 0 [.int v0] S μ Q := by
  refine gw_ok_of stX10_lowestOutside (lv0 := [.int v0, .retAddr 0]) (Nat.le_of_ble_eq_true rfl) rfl rfl ?_
  intro K hK
  unfold F_X10_lowestOutside at h
  refine hK _ _ _ _ _ _ _ ?_
  rw [fdX10_lowestOutside_0]
  simp only [gt_nil, true_and, eq_self, gt_iconst, gt_istore_n, gw_set, bkX10_lowestOutside_0]
  exact B_X10_lowestOutside_2 hK h hq
def F_X4_storeAway (n0 : Nat) (a0 : Nat) (v1 : Int32) (μ : gw_M) : Option (gw_M) := (if 0 ≤ v1 ∧ v1.toNatClampNeg < 16 then gw_let ((μ (a0 + 2) v1.toNatClampNeg)) (fun (w_2 : Int32) => (if ¬ w_2 = (-1) then (if 0 ≤ w_2 ∧ w_2.toNatClampNeg < 10 then (if 0 ≤ v1 ∧ v1.toNatClampNeg < 16 then gw_let (gw_up μ (a0 + 6) v1.toNatClampNeg (μ (a0 + 5) w_2.toNatClampNeg)) (fun (μ_6 : gw_M) => (if 0 ≤ v1 ∧ v1.toNatClampNeg < 16 then gw_let (gw_up μ_6 (a0 + 2) v1.toNatClampNeg (-1)) (fun (μ_8 : gw_M) => (if 0 ≤ v1 ∧ v1.toNatClampNeg < 16 then gw_let (gw_up μ_8 (a0 + 3) v1.toNatClampNeg 0) (fun (μ_10 : gw_M) => gw_let (gw_up μ_10 a0 3 ((μ_10 a0 3) &&& (((1 : Int32) <<< (v1 &&& 31)) ^^^ ((-1) : Int32)))) (fun (μ_11 : gw_M) => some μ_11)) else none)) else none)) else none) else none) else some μ)) else none)
theorem ok_X4_storeAway {l : Launch} {x : gw_C} {d : Nat} {S : gw_S} {Q : Option Value → gw_S → gw_M → Prop} {v1 : Int32} {a0 : Nat} {n0 : Nat} {μ : gw_M} {μ'} (hS0 : gw_sh S 4 a0) (h : F_X4_storeAway n0 a0 v1 μ = some μ') (hq : Q none S μ') : gw_ok l x (d + 1) sgX4_storeAway 0 0 [.ref a0, .int v1] S μ Q := by
  refine gw_ok_of stX4_storeAway (lv0 := [.ref a0, .int v1, .retAddr 0]) (Nat.le_of_ble_eq_true rfl) rfl rfl ?_
  intro K hK
  have ka0_0 : gw_kd S a0 = 4 := (hS0 0 _ rfl).1
  have ra0_0_0 : gw_rf S a0 0 = a0 + 1 := (hS0 0 _ rfl).2.2 (0, 1) (by decide)
  have ra0_0_1 : gw_rf S a0 1 = a0 + 5 := (hS0 0 _ rfl).2.2 (1, 5) (by decide)
  have ra0_0_2 : gw_rf S a0 2 = a0 + 6 := (hS0 0 _ rfl).2.2 (2, 6) (by decide)
  have ka0_1 : gw_kd S (a0 + 1) = 8 := (hS0 1 _ rfl).1
  have ra0_1_0 : gw_rf S (a0 + 1) 0 = a0 + 2 := (hS0 1 _ rfl).2.2 (0, 2) (by decide)
  have ra0_1_1 : gw_rf S (a0 + 1) 1 = a0 + 3 := (hS0 1 _ rfl).2.2 (1, 3) (by decide)
  have ka0_2 : gw_kd S (a0 + 2) = 12 := (hS0 2 _ rfl).1
  have la0_2 : gw_ln S (a0 + 2) = 16 := (hS0 2 _ rfl).2.1
  have ka0_3 : gw_kd S (a0 + 3) = 12 := (hS0 3 _ rfl).1
  have la0_3 : gw_ln S (a0 + 3) = 16 := (hS0 3 _ rfl).2.1
  have ka0_5 : gw_kd S (a0 + 5) = 12 := (hS0 5 _ rfl).1
  have la0_5 : gw_ln S (a0 + 5) = 10 := (hS0 5 _ rfl).2.1
  have ka0_6 : gw_kd S (a0 + 6) = 12 := (hS0 6 _ rfl).1
  have la0_6 : gw_ln S (a0 + 6) = 16 := (hS0 6 _ rfl).2.1
  unfold F_X4_storeAway at h
  refine hK _ _ _ _ _ _ _ ?_
  rw [fdX4_storeAway_0]
  simp only [gt_nil, true_and, eq_self, gt_aload_n, gt_rfk, gw_nth, gt_get_r, gt_get_i, gt_get_z, gt_iload_n, gt_ink, gt_iaload, gt_istore_n, gw_set, gt_iconst, gt_icmp, gt_vret, bkX4_storeAway_0, ka0_0, ra0_0_0, ra0_0_1, ra0_0_2, ka0_1, ra0_1_0, ra0_1_1, ka0_2, la0_2, ka0_3, la0_3, ka0_5, la0_5, ka0_6, la0_6]
  obtain ⟨c_1, h⟩ := gw_ife h
  refine ⟨c_1, ?_⟩
  obtain ⟨w_2, hw_2, h⟩ := gw_lt h
  try rw [← hw_2]
  refine ⟨fun c_3 => ?_, fun c_3 => ?_⟩
  · replace h := gw_ifp h c_3
    refine hK _ _ _ _ _ _ _ ?_
    rw [fdX4_storeAway_16]
    simp only [gt_nil, true_and, eq_self, gt_aload_n, gt_rfk, gw_nth, gt_get_r, gt_get_i, gt_get_z, gt_iload_n, gt_ink, gt_iaload, gt_iastore, gt_iconst, gt_dup_i, gt_dup_r, gt_ishl, gt_ixor, gt_iand, gt_put_i, gt_putz, gt_vret, bkX4_storeAway_16, ka0_0, ra0_0_0, ra0_0_1, ra0_0_2, ka0_1, ra0_1_0, ra0_1_1, ka0_2, la0_2, ka0_3, la0_3, ka0_5, la0_5, ka0_6, la0_6]
    obtain ⟨c_4, h⟩ := gw_ife h
    refine ⟨c_4, ?_⟩
    obtain ⟨c_5, h⟩ := gw_ife h
    refine ⟨c_5, ?_⟩
    obtain ⟨μ_6, hμ_6, h⟩ := gw_lt h
    try rw [← hμ_6]
    obtain ⟨c_7, h⟩ := gw_ife h
    refine ⟨c_7, ?_⟩
    obtain ⟨μ_8, hμ_8, h⟩ := gw_lt h
    try rw [← hμ_8]
    obtain ⟨c_9, h⟩ := gw_ife h
    refine ⟨c_9, ?_⟩
    obtain ⟨μ_10, hμ_10, h⟩ := gw_lt h
    try rw [← hμ_10]
    obtain ⟨μ_11, hμ_11, h⟩ := gw_lt h
    try rw [← hμ_11]
    cases h
    exact ⟨Nat.le_refl _, Nat.le_refl _, hq⟩
  · replace h := gw_ifn h c_3
    cases h
    exact ⟨Nat.le_refl _, Nat.le_refl _, hq⟩
def F_X4_give_82 (n0 : Nat) (a0 : Nat) (v1 : Int32) (v2 : Int32) (v3 : Int32) (μ : gw_M) : Option (Int32 × gw_M) := (if ¬ v3 = (-1) then (F_X8_put n0 (a0 + 1) v1 v3 7 μ).bind (fun (μ_3 : gw_M) => gw_let (gw_up μ_3 a0 3 ((μ_3 a0 3) &&& (((1 : Int32) <<< (v1 &&& 31)) ^^^ ((-1) : Int32)))) (fun (μ_6 : gw_M) => (if 0 ≤ v1 ∧ v1.toNatClampNeg < 16 then (F_J9_max_7cf53 n0 (μ_6 (a0 + 6) v1.toNatClampNeg) 0 μ_6).bind (fun (z_11 : Int32 × gw_M) => (if 0 ≤ v3 ∧ v3.toNatClampNeg < 10 then gw_let (gw_up z_11.2 (a0 + 5) v3.toNatClampNeg z_11.1) (fun (μ_13 : gw_M) => (if 0 ≤ v1 ∧ v1.toNatClampNeg < 16 then gw_let (gw_up μ_13 (a0 + 6) v1.toNatClampNeg (-1)) (fun (μ_15 : gw_M) => gw_let (gw_up μ_15 a0 4 ((μ_15 a0 4) ||| ((1 : Int32) <<< (v3 &&& 31)))) (fun (μ_16 : gw_M) => some (v2, μ_16))) else none)) else none)) else none))) else some (v2, μ))
def F_X4_give_15 (n0 : Nat) (a0 : Nat) : Nat → Int32 → Int32 → Int32 → Int32 → gw_M → Option (Int32 × gw_M)
  | 0, _, _, _, _, _ => none
  | n + 1, v1, v2, v3, v4, μ => (if 16 ≤ v4 then F_X4_give_82 n0 a0 v1 v2 v3 μ else (if ¬ v3 = (-1) then F_X4_give_82 n0 a0 v1 v2 v3 μ else (F_X8_eldest n0 (a0 + 1) μ).bind (fun (z_6 : Int32 × gw_M) => (if ¬ z_6.1 = (-1) then (F_X4_storeAway n0 a0 z_6.1 z_6.2).bind (fun (μ_9 : gw_M) => gw_let (gw_up μ_9 a0 5 ((μ_9 a0 5) + (1 : Int32))) (fun (μ_12 : gw_M) => gw_let ((v2 ||| ((1 : Int32) <<< (z_6.1 &&& 31)))) (fun (w_13 : Int32) => (F_X4_framesLedTo n0 a0 μ_12).bind (fun (z_17 : Int32 × gw_M) => (F_X10_lowestOutside n0 z_17.1 z_17.2).bind (fun (z_21 : Int32 × gw_M) => gw_let (v4 + 1) (fun (w_22 : Int32) => F_X4_give_15 n0 a0 n v1 w_13 z_21.1 w_22 z_21.2)))))) else F_X4_give_82 n0 a0 v1 v2 v3 z_6.2))))
def F_X4_give (n0 : Nat) (a0 : Nat) (v1 : Int32) (μ : gw_M) : Option (Int32 × gw_M) := gw_let (((1 : Int32) <<< (v1 &&& 31))) (fun (w_1 : Int32) => (F_X4_framesLedTo n0 a0 μ).bind (fun (z_5 : Int32 × gw_M) => (F_X10_lowestOutside n0 z_5.1 z_5.2).bind (fun (z_9 : Int32 × gw_M) => F_X4_give_15 n0 a0 n0 v1 w_1 z_9.1 0 z_9.2)))
theorem B_X4_give_82 {l : Launch} {x : gw_C} {d : Nat} {S : gw_S} {Q : Option Value → gw_S → gw_M → Prop} {K : Nat → gw_Kt} (hK : gw_cl l x (d + 1) bsX4_give Q K) {a0 : Nat} (hS0 : gw_sh S 4 a0) {n0 : Nat} {v1 v2 v3} {u4 u5 : Value} {μ : gw_M} {r μ'} (h : F_X4_give_82 n0 a0 v1 v2 v3 μ = some (r, μ')) (hq : Q (some (.int r)) S μ') : K 82 [.ref a0, .int v1, .int v2, .int v3, u4, u5] [] S μ 0 0 := by
  have ka0_0 : gw_kd S a0 = 4 := (hS0 0 _ rfl).1
  have ra0_0_0 : gw_rf S a0 0 = a0 + 1 := (hS0 0 _ rfl).2.2 (0, 1) (by decide)
  have ra0_0_1 : gw_rf S a0 1 = a0 + 5 := (hS0 0 _ rfl).2.2 (1, 5) (by decide)
  have ra0_0_2 : gw_rf S a0 2 = a0 + 6 := (hS0 0 _ rfl).2.2 (2, 6) (by decide)
  have ka0_1 : gw_kd S (a0 + 1) = 8 := (hS0 1 _ rfl).1
  have ka0_5 : gw_kd S (a0 + 5) = 12 := (hS0 5 _ rfl).1
  have la0_5 : gw_ln S (a0 + 5) = 10 := (hS0 5 _ rfl).2.1
  have ka0_6 : gw_kd S (a0 + 6) = 12 := (hS0 6 _ rfl).1
  have la0_6 : gw_ln S (a0 + 6) = 16 := (hS0 6 _ rfl).2.1
  unfold F_X4_give_82 at h
  refine hK _ _ _ _ _ _ _ ?_
  rw [fdX4_give_82]
  simp only [gt_nil, true_and, eq_self, gt_iload_n, gt_ink, gw_nth, gt_iconst, gt_icmp, gt_iret, gt_retz, bkX4_give_82, ka0_0, ra0_0_0, ra0_0_1, ra0_0_2, ka0_1, ka0_5, la0_5, ka0_6, la0_6]
  refine ⟨fun c_1 => ?_, fun c_1 => ?_⟩
  · replace h := gw_ifp h c_1
    refine hK _ _ _ _ _ _ _ ?_
    rw [fdX4_give_89]
    simp only [gt_nil, true_and, eq_self, gt_aload_n, gt_rfk, gw_nth, gt_get_r, gt_get_i, gt_get_z, gt_iload_n, gt_ink, gt_bipush, gt_v0, gt_v1, gt_v2, gt_v3, gt_v4, gt_v5, gt_dup_i, gt_dup_r, gt_iconst, gt_ishl, gt_ixor, gt_iand, gt_put_i, gt_putz, gt_iaload, gt_s1_0, gt_s2_0, gt_s3_0, gt_s4_0, gt_s1_1, gt_s2_1, gt_s3_1, gt_s4_1, gt_acpy, gt_iastore, gt_ior, gt_iret, gt_retz, bkX4_give_89, ka0_0, ra0_0_0, ra0_0_1, ra0_0_2, ka0_1, ka0_5, la0_5, ka0_6, la0_6]
    obtain ⟨μ_3, e_4, h⟩ := gw_bnd h
    refine ⟨rfl, 0, 0, Nat.le_refl _, Nat.le_refl _, ok_X8_put (gw_sub hS0 8 1 (by decide +kernel)) e_4 ?_⟩
    simp only [gt_nil, true_and, eq_self, gt_aload_n, gt_rfk, gw_nth, gt_dup_i, gt_dup_r, gt_get_r, gt_get_i, gt_get_z, gt_iconst, gt_iload_n, gt_ink, gt_ishl, gt_ixor, gt_iand, gt_put_i, gt_putz, gt_iaload, gt_s1_0, gt_s2_0, gt_s3_0, gt_s4_0, gt_s1_1, gt_s2_1, gt_s3_1, gt_s4_1, gt_acpy, gt_iastore, gt_ior, gt_iret, gt_retz, Option.toList, List.cons_append, List.nil_append, Nat.add_zero, ka0_0, ra0_0_0, ra0_0_1, ra0_0_2, ka0_1, ka0_5, la0_5, ka0_6, la0_6]
    obtain ⟨μ_6, hμ_6, h⟩ := gw_lt h
    try rw [← hμ_6]
    obtain ⟨c_7, h⟩ := gw_ife h
    refine ⟨c_7, ?_⟩
    obtain ⟨⟨r_8, μ_9⟩, e_10, h⟩ := gw_bnd h
    refine ⟨rfl, 0, 0, Nat.le_refl _, Nat.le_refl _, ok_J9_max_7cf53 e_10 ?_⟩
    dsimp only at h
    simp only [gt_nil, true_and, eq_self, gt_iastore, gt_aload_n, gt_rfk, gw_nth, gt_get_r, gt_get_i, gt_get_z, gt_iload_n, gt_ink, gt_iconst, gt_dup_i, gt_dup_r, gt_ishl, gt_ior, gt_put_i, gt_putz, gt_iret, gt_retz, Option.toList, List.cons_append, List.nil_append, Nat.add_zero, ka0_0, ra0_0_0, ra0_0_1, ra0_0_2, ka0_1, ka0_5, la0_5, ka0_6, la0_6]
    obtain ⟨c_12, h⟩ := gw_ife h
    refine ⟨c_12, ?_⟩
    obtain ⟨μ_13, hμ_13, h⟩ := gw_lt h
    try rw [← hμ_13]
    obtain ⟨c_14, h⟩ := gw_ife h
    refine ⟨c_14, ?_⟩
    obtain ⟨μ_15, hμ_15, h⟩ := gw_lt h
    try rw [← hμ_15]
    obtain ⟨μ_16, hμ_16, h⟩ := gw_lt h
    try rw [← hμ_16]
    cases h
    exact ⟨Nat.le_refl _, Nat.le_refl _, hq⟩
  · replace h := gw_ifn h c_1
    cases h
    exact ⟨Nat.le_refl _, Nat.le_refl _, hq⟩
theorem B_X4_give_15 {l : Launch} {x : gw_C} {d : Nat} {S : gw_S} {Q : Option Value → gw_S → gw_M → Prop} {K : Nat → gw_Kt} (hK : gw_cl l x (d + 1) bsX4_give Q K) {a0 : Nat} (hS0 : gw_sh S 4 a0) {n0 : Nat} : ∀ {n : Nat} {v1 v2 v3 v4} {u5 : Value} {μ : gw_M} {r μ'}, F_X4_give_15 n0 a0 n v1 v2 v3 v4 μ = some (r, μ') → Q (some (.int r)) S μ' → K 15 [.ref a0, .int v1, .int v2, .int v3, .int v4, u5] [] S μ 0 0 := by
  have ka0_0 : gw_kd S a0 = 4 := (hS0 0 _ rfl).1
  have ra0_0_0 : gw_rf S a0 0 = a0 + 1 := (hS0 0 _ rfl).2.2 (0, 1) (by decide)
  have ka0_1 : gw_kd S (a0 + 1) = 8 := (hS0 1 _ rfl).1
  intro n
  induction n with
  | zero => intro v1 v2 v3 v4 u5 μ r μ' h hq; simp [F_X4_give_15] at h
  | succ n ih =>
    intro v1 v2 v3 v4 u5 μ r μ' h hq
    simp only [F_X4_give_15] at h
    refine hK _ _ _ _ _ _ _ ?_
    rw [fdX4_give_15]
    simp only [gt_nil, true_and, eq_self, gt_iload, gt_ink, gw_nth, gt_bipush, gt_icmp, gt_iload_n, gt_iconst, gt_aload_n, gt_rfk, gt_get_r, gt_get_i, gt_get_z, gt_v0, gt_v1, gt_v2, gt_v3, gt_v4, gt_v5, gt_istore, gw_set, gt_goto, bkX4_give_15, ka0_0, ra0_0_0, ka0_1]
    refine ⟨fun c_1 => ?_, fun c_1 => ?_⟩
    · replace h := gw_ifp h c_1
      exact B_X4_give_82 hK hS0 h hq
    · replace h := gw_ifn h c_1
      refine ⟨fun c_2 => ?_, fun c_2 => ?_⟩
      · replace h := gw_ifp h c_2
        exact B_X4_give_82 hK hS0 h hq
      · replace h := gw_ifn h c_2
        obtain ⟨⟨r_3, μ_4⟩, e_5, h⟩ := gw_bnd h
        refine ⟨rfl, 0, 0, Nat.le_refl _, Nat.le_refl _, ok_X8_eldest (gw_sub hS0 8 1 (by decide +kernel)) e_5 ?_⟩
        dsimp only at h
        simp only [gt_nil, true_and, eq_self, gt_istore, gw_set, gt_iload, gt_ink, gw_nth, gt_iconst, gt_icmp, gt_goto, Option.toList, List.cons_append, List.nil_append, Nat.add_zero, ka0_0, ra0_0_0, ka0_1]
        refine ⟨fun c_7 => ?_, fun c_7 => ?_⟩
        · replace h := gw_ifp h c_7
          refine hK _ _ _ _ _ _ _ ?_
          rw [fdX4_give_45]
          simp only [gt_nil, true_and, eq_self, gt_aload_n, gt_rfk, gw_nth, gt_iload, gt_ink, gt_v0, gt_v1, gt_v2, gt_v3, gt_v4, gt_v5, gt_dup_i, gt_dup_r, gt_get_r, gt_get_i, gt_get_z, gt_iconst, gt_iadd, gt_put_i, gt_putz, gt_iload_n, gt_ishl, gt_ior, gt_istore_n, gw_set, gt_s1_0, gt_s2_0, gt_s3_0, gt_s4_0, gt_s1_1, gt_s2_1, gt_s3_1, gt_s4_1, gt_acpy, gt_iinc, gt_goto, bkX4_give_45, ka0_0, ra0_0_0, ka0_1]
          obtain ⟨μ_9, e_10, h⟩ := gw_bnd h
          refine ⟨rfl, 0, 0, Nat.le_refl _, Nat.le_refl _, ok_X4_storeAway hS0 e_10 ?_⟩
          simp only [gt_nil, true_and, eq_self, gt_aload_n, gt_rfk, gw_nth, gt_dup_i, gt_dup_r, gt_get_r, gt_get_i, gt_get_z, gt_iconst, gt_iadd, gt_put_i, gt_putz, gt_iload_n, gt_ink, gt_iload, gt_ishl, gt_ior, gt_istore_n, gw_set, gt_v0, gt_v1, gt_v2, gt_v3, gt_v4, gt_v5, gt_s1_0, gt_s2_0, gt_s3_0, gt_s4_0, gt_s1_1, gt_s2_1, gt_s3_1, gt_s4_1, gt_acpy, gt_iinc, gt_goto, Option.toList, List.cons_append, List.nil_append, Nat.add_zero, ka0_0, ra0_0_0, ka0_1]
          obtain ⟨μ_12, hμ_12, h⟩ := gw_lt h
          try rw [← hμ_12]
          obtain ⟨w_13, hw_13, h⟩ := gw_lt h
          try rw [← hw_13]
          obtain ⟨⟨r_14, μ_15⟩, e_16, h⟩ := gw_bnd h
          refine ⟨rfl, 0, 0, Nat.le_refl _, Nat.le_refl _, ok_X4_framesLedTo hS0 e_16 ?_⟩
          dsimp only at h
          simp only [gt_nil, true_and, eq_self, gt_s1_0, gt_s2_0, gt_s3_0, gt_s4_0, gt_s1_1, gt_s2_1, gt_s3_1, gt_s4_1, gt_acpy, gt_istore_n, gw_set, gt_iinc, gt_ink, gw_nth, gt_goto, Option.toList, List.cons_append, List.nil_append, Nat.add_zero, ka0_0, ra0_0_0, ka0_1]
          obtain ⟨⟨r_18, μ_19⟩, e_20, h⟩ := gw_bnd h
          refine ⟨rfl, 0, 0, Nat.le_refl _, Nat.le_refl _, ok_X10_lowestOutside e_20 ?_⟩
          dsimp only at h
          simp only [gt_nil, true_and, eq_self, gt_istore_n, gw_set, gt_iinc, gt_ink, gw_nth, gt_goto, Option.toList, List.cons_append, List.nil_append, Nat.add_zero, ka0_0, ra0_0_0, ka0_1]
          obtain ⟨w_22, hw_22, h⟩ := gw_lt h
          try rw [← hw_22]
          exact ih h hq
        · replace h := gw_ifn h c_7
          exact B_X4_give_82 hK hS0 h hq
theorem ok_X4_give {l : Launch} {x : gw_C} {d : Nat} {S : gw_S} {Q : Option Value → gw_S → gw_M → Prop} {v1 : Int32} {a0 : Nat} {n0 : Nat} {μ : gw_M} {r μ'} (hS0 : gw_sh S 4 a0) (h : F_X4_give n0 a0 v1 μ = some (r, μ')) (hq : Q (some (.int r)) S μ') : gw_ok l x (d + 2) sgX4_give 0 0 [.ref a0, .int v1] S μ Q := by
  refine gw_ok_of stX4_give (lv0 := [.ref a0, .int v1, .retAddr 0, .retAddr 0, .retAddr 0, .retAddr 0]) (Nat.le_of_ble_eq_true rfl) rfl rfl ?_
  intro K hK
  have ka0_0 : gw_kd S a0 = 4 := (hS0 0 _ rfl).1
  unfold F_X4_give at h
  refine hK _ _ _ _ _ _ _ ?_
  rw [fdX4_give_0]
  simp only [gt_nil, true_and, eq_self, gt_iconst, gt_iload_n, gt_ink, gw_nth, gt_ishl, gt_istore_n, gw_set, gt_aload_n, gt_rfk, gt_v0, gt_v1, gt_v2, gt_v3, gt_v4, gt_v5, gt_s1_0, gt_s2_0, gt_s3_0, gt_s4_0, gt_s1_1, gt_s2_1, gt_s3_1, gt_s4_1, gt_acpy, gt_istore, bkX4_give_0, ka0_0]
  obtain ⟨w_1, hw_1, h⟩ := gw_lt h
  try rw [← hw_1]
  obtain ⟨⟨r_2, μ_3⟩, e_4, h⟩ := gw_bnd h
  refine ⟨rfl, 0, 0, Nat.le_refl _, Nat.le_refl _, ok_X4_framesLedTo hS0 e_4 ?_⟩
  dsimp only at h
  simp only [gt_nil, true_and, eq_self, gt_s1_0, gt_s2_0, gt_s3_0, gt_s4_0, gt_s1_1, gt_s2_1, gt_s3_1, gt_s4_1, gt_acpy, gt_istore_n, gw_set, gt_iconst, gt_istore, Option.toList, List.cons_append, List.nil_append, Nat.add_zero, ka0_0]
  obtain ⟨⟨r_6, μ_7⟩, e_8, h⟩ := gw_bnd h
  refine ⟨rfl, 0, 0, Nat.le_refl _, Nat.le_refl _, ok_X10_lowestOutside e_8 ?_⟩
  dsimp only at h
  simp only [gt_nil, true_and, eq_self, gt_istore_n, gw_set, gt_iconst, gt_istore, Option.toList, List.cons_append, List.nil_append, Nat.add_zero, ka0_0]
  exact B_X4_give_15 hK hS0 h hq
def F_X4_sharesFrame_36 (rec2 : Int32 → Int32 → gw_M → Option (Int32 × gw_M)) (n0 : Nat) (a0 : Nat) (v1 : Int32) (v2 : Int32) (μ : gw_M) : Option (Int32 × gw_M) := gw_let (v2 + 1) (fun (w_1 : Int32) => rec2 v1 w_1 μ)
def F_X4_sharesFrame_2 (n0 : Nat) (a0 : Nat) : Nat → Int32 → Int32 → gw_M → Option (Int32 × gw_M)
  | 0, _, _, _ => none
  | n + 1, v1, v2, μ => (if 16 ≤ v2 then some (0, μ) else (if v2 = v1 then F_X4_sharesFrame_36 (F_X4_sharesFrame_2 n0 a0 n) n0 a0 v1 v2 μ else (if 0 ≤ v2 ∧ v2.toNatClampNeg < 16 then (if 0 ≤ v1 ∧ v1.toNatClampNeg < 16 then (if ¬ (μ (a0 + 2) v2.toNatClampNeg) = (μ (a0 + 2) v1.toNatClampNeg) then F_X4_sharesFrame_36 (F_X4_sharesFrame_2 n0 a0 n) n0 a0 v1 v2 μ else some (1, μ)) else none) else none)))
def F_X4_sharesFrame (n0 : Nat) (a0 : Nat) (v1 : Int32) (μ : gw_M) : Option (Int32 × gw_M) := F_X4_sharesFrame_2 n0 a0 n0 v1 0 μ
theorem B_X4_sharesFrame_36 {l : Launch} {x : gw_C} {d : Nat} {S : gw_S} {Q : Option Value → gw_S → gw_M → Prop} {K : Nat → gw_Kt} (hK : gw_cl l x (d + 0) bsX4_sharesFrame Q K) {a0 : Nat} (hS0 : gw_sh S 4 a0) {rec2 : Int32 → Int32 → gw_M → Option (Int32 × gw_M)} (hrec2 : ∀ {v1 v2} {μ : gw_M} {r μ'}, rec2 v1 v2 μ = some (r, μ') → ((r = 0 ∨ r = 1) → Q (some (.int r)) S μ') → K 2 [.ref a0, .int v1, .int v2] [] S μ 0 0) {n0 : Nat} {v1 v2} {μ : gw_M} {r μ'} (h : F_X4_sharesFrame_36 rec2 n0 a0 v1 v2 μ = some (r, μ')) (hq : ((r = 0 ∨ r = 1) → Q (some (.int r)) S μ')) : K 36 [.ref a0, .int v1, .int v2] [] S μ 0 0 := by
  unfold F_X4_sharesFrame_36 at h
  refine hK _ _ _ _ _ _ _ ?_
  rw [fdX4_sharesFrame_36]
  simp only [gt_nil, true_and, eq_self, gt_iinc, gt_ink, gw_nth, gw_set, gt_goto, bkX4_sharesFrame_36]
  obtain ⟨w_1, hw_1, h⟩ := gw_lt h
  try rw [← hw_1]
  exact hrec2 h hq
theorem B_X4_sharesFrame_2 {l : Launch} {x : gw_C} {d : Nat} {S : gw_S} {Q : Option Value → gw_S → gw_M → Prop} {K : Nat → gw_Kt} (hK : gw_cl l x (d + 0) bsX4_sharesFrame Q K) {a0 : Nat} (hS0 : gw_sh S 4 a0) {n0 : Nat} : ∀ {n : Nat} {v1 v2} {μ : gw_M} {r μ'}, F_X4_sharesFrame_2 n0 a0 n v1 v2 μ = some (r, μ') → ((r = 0 ∨ r = 1) → Q (some (.int r)) S μ') → K 2 [.ref a0, .int v1, .int v2] [] S μ 0 0 := by
  have ka0_0 : gw_kd S a0 = 4 := (hS0 0 _ rfl).1
  have ra0_0_0 : gw_rf S a0 0 = a0 + 1 := (hS0 0 _ rfl).2.2 (0, 1) (by decide)
  have ka0_1 : gw_kd S (a0 + 1) = 8 := (hS0 1 _ rfl).1
  have ra0_1_0 : gw_rf S (a0 + 1) 0 = a0 + 2 := (hS0 1 _ rfl).2.2 (0, 2) (by decide)
  have ka0_2 : gw_kd S (a0 + 2) = 12 := (hS0 2 _ rfl).1
  have la0_2 : gw_ln S (a0 + 2) = 16 := (hS0 2 _ rfl).2.1
  intro n
  induction n with
  | zero => intro v1 v2 μ r μ' h hq; simp [F_X4_sharesFrame_2] at h
  | succ n ih =>
    intro v1 v2 μ r μ' h hq
    simp only [F_X4_sharesFrame_2] at h
    refine hK _ _ _ _ _ _ _ ?_
    rw [fdX4_sharesFrame_2]
    simp only [gt_nil, true_and, eq_self, gt_iload_n, gt_ink, gw_nth, gt_bipush, gt_icmp, gt_aload_n, gt_rfk, gt_get_r, gt_get_i, gt_get_z, gt_iaload, gt_iconst, gt_iret, gt_retz, bkX4_sharesFrame_2, ka0_0, ra0_0_0, ka0_1, ra0_1_0, ka0_2, la0_2]
    refine ⟨fun c_1 => ?_, fun c_1 => ?_⟩
    · replace h := gw_ifp h c_1
      refine hK _ _ _ _ _ _ _ ?_
      rw [fdX4_sharesFrame_42]
      simp only [gt_nil, true_and, eq_self, gt_iconst, gt_iret, gt_retz, bkX4_sharesFrame_42, ka0_0, ra0_0_0, ka0_1, ra0_1_0, ka0_2, la0_2]
      cases h
      exact ⟨(Or.inl rfl), Nat.le_refl _, Nat.le_refl _, hq (Or.inl rfl)⟩
    · replace h := gw_ifn h c_1
      refine ⟨fun c_2 => ?_, fun c_2 => ?_⟩
      · replace h := gw_ifp h c_2
        exact B_X4_sharesFrame_36 hK hS0 ih h hq
      · replace h := gw_ifn h c_2
        obtain ⟨c_3, h⟩ := gw_ife h
        refine ⟨c_3, ?_⟩
        obtain ⟨c_4, h⟩ := gw_ife h
        refine ⟨c_4, ?_⟩
        refine ⟨fun c_5 => ?_, fun c_5 => ?_⟩
        · replace h := gw_ifp h c_5
          exact B_X4_sharesFrame_36 hK hS0 ih h hq
        · replace h := gw_ifn h c_5
          cases h
          exact ⟨(Or.inr rfl), Nat.le_refl _, Nat.le_refl _, hq (Or.inr rfl)⟩
theorem ok_X4_sharesFrame {l : Launch} {x : gw_C} {d : Nat} {S : gw_S} {Q : Option Value → gw_S → gw_M → Prop} {v1 : Int32} {a0 : Nat} {n0 : Nat} {μ : gw_M} {r μ'} (hS0 : gw_sh S 4 a0) (h : F_X4_sharesFrame n0 a0 v1 μ = some (r, μ')) (hq : ((r = 0 ∨ r = 1) → Q (some (.int r)) S μ')) : gw_ok l x (d + 1) sgX4_sharesFrame 0 0 [.ref a0, .int v1] S μ Q := by
  refine gw_ok_of stX4_sharesFrame (lv0 := [.ref a0, .int v1, .retAddr 0]) (Nat.le_of_ble_eq_true rfl) rfl rfl ?_
  intro K hK
  unfold F_X4_sharesFrame at h
  refine hK _ _ _ _ _ _ _ ?_
  rw [fdX4_sharesFrame_0]
  simp only [gt_nil, true_and, eq_self, gt_iconst, gt_istore_n, gw_set, bkX4_sharesFrame_0]
  exact B_X4_sharesFrame_2 hK hS0 h hq
def F_X4_part (n0 : Nat) (a0 : Nat) (v1 : Int32) (μ : gw_M) : Option (gw_M) := (F_X4_sharesFrame n0 a0 v1 μ).bind (fun (z_4 : Int32 × gw_M) => (if z_4.1 = 0 then gw_let (gw_up z_4.2 a0 3 ((z_4.2 a0 3) &&& (((1 : Int32) <<< (v1 &&& 31)) ^^^ ((-1) : Int32)))) (fun (μ_6 : gw_M) => some μ_6) else (F_X4_storeAway n0 a0 v1 z_4.2).bind (fun (μ_8 : gw_M) => some μ_8)))
theorem ok_X4_part {l : Launch} {x : gw_C} {d : Nat} {S : gw_S} {Q : Option Value → gw_S → gw_M → Prop} {v1 : Int32} {a0 : Nat} {n0 : Nat} {μ : gw_M} {μ'} (hS0 : gw_sh S 4 a0) (h : F_X4_part n0 a0 v1 μ = some μ') (hq : Q none S μ') : gw_ok l x (d + 2) sgX4_part 0 0 [.ref a0, .int v1] S μ Q := by
  refine gw_ok_of stX4_part (lv0 := [.ref a0, .int v1]) (Nat.le_of_ble_eq_true rfl) rfl rfl ?_
  intro K hK
  have ka0_0 : gw_kd S a0 = 4 := (hS0 0 _ rfl).1
  unfold F_X4_part at h
  refine hK _ _ _ _ _ _ _ ?_
  rw [fdX4_part_0]
  simp only [gt_nil, true_and, eq_self, gt_aload_n, gt_rfk, gw_nth, gt_iload_n, gt_ink, gt_v0, gt_v1, gt_v2, gt_v3, gt_v4, gt_v5, gt_if, gt_goto, bkX4_part_0, ka0_0]
  obtain ⟨⟨r_1, μ_2⟩, e_3, h⟩ := gw_bnd h
  refine ⟨rfl, 0, 0, Nat.le_refl _, Nat.le_refl _, ok_X4_sharesFrame hS0 e_3 ?_⟩
  intro hbr_1
  dsimp only at h
  simp only [gt_nil, true_and, eq_self, gt_if, gt_aload_n, gt_rfk, gw_nth, gt_iload_n, gt_ink, gt_v0, gt_v1, gt_v2, gt_v3, gt_v4, gt_v5, gt_goto, Option.toList, List.cons_append, List.nil_append, Nat.add_zero, ka0_0]
  refine ⟨fun c_5 => ?_, fun c_5 => ?_⟩
  · replace h := gw_ifp h c_5
    refine hK _ _ _ _ _ _ _ ?_
    rw [fdX4_part_16]
    simp only [gt_nil, true_and, eq_self, gt_aload_n, gt_rfk, gw_nth, gt_dup_i, gt_dup_r, gt_get_r, gt_get_i, gt_get_z, gt_iconst, gt_iload_n, gt_ink, gt_ishl, gt_ixor, gt_iand, gt_put_i, gt_putz, bkX4_part_16, ka0_0]
    obtain ⟨μ_6, hμ_6, h⟩ := gw_lt h
    try rw [← hμ_6]
    refine hK _ _ _ _ _ _ _ ?_
    rw [fdX4_part_30]
    simp only [gt_nil, true_and, eq_self, gt_vret, bkX4_part_30, ka0_0]
    cases h
    exact ⟨Nat.le_refl _, Nat.le_refl _, hq⟩
  · replace h := gw_ifn h c_5
    obtain ⟨μ_8, e_9, h⟩ := gw_bnd h
    refine ⟨rfl, 0, 0, Nat.le_refl _, Nat.le_refl _, ok_X4_storeAway hS0 e_9 ?_⟩
    simp only [gt_nil, true_and, eq_self, gt_goto, Option.toList, List.cons_append, List.nil_append, Nat.add_zero, ka0_0]
    refine hK _ _ _ _ _ _ _ ?_
    rw [fdX4_part_30]
    simp only [gt_nil, true_and, eq_self, gt_vret, bkX4_part_30, ka0_0]
    cases h
    exact ⟨Nat.le_refl _, Nat.le_refl _, hq⟩
def F_X4_partsOnWrite_31 (n0 : Nat) (a0 : Nat) (μ : gw_M) : Option (Int32 × gw_M) := some (0, μ)
def F_X4_partsOnWrite (n0 : Nat) (a0 : Nat) (v1 : Int32) (μ : gw_M) : Option (Int32 × gw_M) := (F_X10_hasBit n0 (μ a0 3) v1 μ).bind (fun (z_4 : Int32 × gw_M) => (if z_4.1 = 0 then F_X4_partsOnWrite_31 n0 a0 z_4.2 else (if 0 ≤ v1 ∧ v1.toNatClampNeg < 16 then (F_X10_hasBit n0 (z_4.2 (a0 + 3) v1.toNatClampNeg) 1 z_4.2).bind (fun (z_10 : Int32 × gw_M) => (if z_10.1 = 0 then F_X4_partsOnWrite_31 n0 a0 z_10.2 else some (1, z_10.2))) else none)))
theorem B_X4_partsOnWrite_31 {l : Launch} {x : gw_C} {d : Nat} {S : gw_S} {Q : Option Value → gw_S → gw_M → Prop} {K : Nat → gw_Kt} (hK : gw_cl l x (d + 1) bsX4_partsOnWrite Q K) {a0 : Nat} (hS0 : gw_sh S 4 a0) {n0 : Nat}  {u1 : Value} {μ : gw_M} {r μ'} (h : F_X4_partsOnWrite_31 n0 a0 μ = some (r, μ')) (hq : ((r = 0 ∨ r = 1) → Q (some (.int r)) S μ')) : K 31 [.ref a0, u1] [] S μ 0 0 := by
  unfold F_X4_partsOnWrite_31 at h
  refine hK _ _ _ _ _ _ _ ?_
  rw [fdX4_partsOnWrite_31]
  simp only [gt_nil, true_and, eq_self, gt_iconst, bkX4_partsOnWrite_31]
  refine hK _ _ _ _ _ _ _ ?_
  rw [fdX4_partsOnWrite_32]
  simp only [gt_nil, true_and, eq_self, gt_iret, gt_retz, bkX4_partsOnWrite_32]
  cases h
  exact ⟨(Or.inl rfl), Nat.le_refl _, Nat.le_refl _, hq (Or.inl rfl)⟩
theorem ok_X4_partsOnWrite {l : Launch} {x : gw_C} {d : Nat} {S : gw_S} {Q : Option Value → gw_S → gw_M → Prop} {v1 : Int32} {a0 : Nat} {n0 : Nat} {μ : gw_M} {r μ'} (hS0 : gw_sh S 4 a0) (h : F_X4_partsOnWrite n0 a0 v1 μ = some (r, μ')) (hq : ((r = 0 ∨ r = 1) → Q (some (.int r)) S μ')) : gw_ok l x (d + 2) sgX4_partsOnWrite 0 0 [.ref a0, .int v1] S μ Q := by
  refine gw_ok_of stX4_partsOnWrite (lv0 := [.ref a0, .int v1]) (Nat.le_of_ble_eq_true rfl) rfl rfl ?_
  intro K hK
  have ka0_0 : gw_kd S a0 = 4 := (hS0 0 _ rfl).1
  have ra0_0_0 : gw_rf S a0 0 = a0 + 1 := (hS0 0 _ rfl).2.2 (0, 1) (by decide)
  have ka0_1 : gw_kd S (a0 + 1) = 8 := (hS0 1 _ rfl).1
  have ra0_1_1 : gw_rf S (a0 + 1) 1 = a0 + 3 := (hS0 1 _ rfl).2.2 (1, 3) (by decide)
  have ka0_3 : gw_kd S (a0 + 3) = 12 := (hS0 3 _ rfl).1
  have la0_3 : gw_ln S (a0 + 3) = 16 := (hS0 3 _ rfl).2.1
  unfold F_X4_partsOnWrite at h
  refine hK _ _ _ _ _ _ _ ?_
  rw [fdX4_partsOnWrite_0]
  simp only [gt_nil, true_and, eq_self, gt_aload_n, gt_rfk, gw_nth, gt_get_r, gt_get_i, gt_get_z, gt_iload_n, gt_ink, gt_s1_0, gt_s2_0, gt_s3_0, gt_s4_0, gt_s1_1, gt_s2_1, gt_s3_1, gt_s4_1, gt_acpy, gt_if, gt_iaload, gt_iconst, gt_goto, bkX4_partsOnWrite_0, ka0_0, ra0_0_0, ka0_1, ra0_1_1, ka0_3, la0_3]
  obtain ⟨⟨r_1, μ_2⟩, e_3, h⟩ := gw_bnd h
  refine ⟨rfl, 0, 0, Nat.le_refl _, Nat.le_refl _, ok_X10_hasBit e_3 ?_⟩
  intro hbr_1
  dsimp only at h
  simp only [gt_nil, true_and, eq_self, gt_if, gt_aload_n, gt_rfk, gw_nth, gt_get_r, gt_get_i, gt_get_z, gt_iload_n, gt_ink, gt_iaload, gt_iconst, gt_s1_0, gt_s2_0, gt_s3_0, gt_s4_0, gt_s1_1, gt_s2_1, gt_s3_1, gt_s4_1, gt_acpy, gt_goto, Option.toList, List.cons_append, List.nil_append, Nat.add_zero, ka0_0, ra0_0_0, ka0_1, ra0_1_1, ka0_3, la0_3]
  refine ⟨fun c_5 => ?_, fun c_5 => ?_⟩
  · replace h := gw_ifp h c_5
    exact B_X4_partsOnWrite_31 hK hS0 h hq
  · replace h := gw_ifn h c_5
    obtain ⟨c_6, h⟩ := gw_ife h
    refine ⟨c_6, ?_⟩
    obtain ⟨⟨r_7, μ_8⟩, e_9, h⟩ := gw_bnd h
    refine ⟨rfl, 0, 0, Nat.le_refl _, Nat.le_refl _, ok_X10_hasBit e_9 ?_⟩
    intro hbr_7
    dsimp only at h
    simp only [gt_nil, true_and, eq_self, gt_if, gt_iconst, gt_goto, Option.toList, List.cons_append, List.nil_append, Nat.add_zero, ka0_0, ra0_0_0, ka0_1, ra0_1_1, ka0_3, la0_3]
    refine ⟨fun c_11 => ?_, fun c_11 => ?_⟩
    · replace h := gw_ifp h c_11
      exact B_X4_partsOnWrite_31 hK hS0 h hq
    · replace h := gw_ifn h c_11
      refine hK _ _ _ _ _ _ _ ?_
      rw [fdX4_partsOnWrite_32]
      simp only [gt_nil, true_and, eq_self, gt_iret, gt_retz, bkX4_partsOnWrite_32, ka0_0, ra0_0_0, ka0_1, ra0_1_1, ka0_3, la0_3]
      cases h
      exact ⟨(Or.inr rfl), Nat.le_refl _, Nat.le_refl _, hq (Or.inr rfl)⟩
def F_X8_gives (n0 : Nat) (a0 : Nat) (v1 : Int32) (v2 : Int32) (μ : gw_M) : Option (Int32 × gw_M) := (if 0 ≤ v1 ∧ v1.toNatClampNeg < 16 then (F_X10_hasBit n0 (μ (a0 + 2) v1.toNatClampNeg) v2 μ).bind (fun (z_5 : Int32 × gw_M) => some (z_5.1, z_5.2)) else none)
theorem ok_X8_gives {l : Launch} {x : gw_C} {d : Nat} {S : gw_S} {Q : Option Value → gw_S → gw_M → Prop} {v1 v2 : Int32} {a0 : Nat} {n0 : Nat} {μ : gw_M} {r μ'} (hS0 : gw_sh S 8 a0) (h : F_X8_gives n0 a0 v1 v2 μ = some (r, μ')) (hq : ((r = 0 ∨ r = 1) → Q (some (.int r)) S μ')) : gw_ok l x (d + 2) sgX8_gives 0 0 [.ref a0, .int v1, .int v2] S μ Q := by
  refine gw_ok_of stX8_gives (lv0 := [.ref a0, .int v1, .int v2]) (Nat.le_of_ble_eq_true rfl) rfl rfl ?_
  intro K hK
  have ka0_0 : gw_kd S a0 = 8 := (hS0 0 _ rfl).1
  have ra0_0_1 : gw_rf S a0 1 = a0 + 2 := (hS0 0 _ rfl).2.2 (1, 2) (by decide)
  have ka0_2 : gw_kd S (a0 + 2) = 12 := (hS0 2 _ rfl).1
  have la0_2 : gw_ln S (a0 + 2) = 16 := (hS0 2 _ rfl).2.1
  unfold F_X8_gives at h
  refine hK _ _ _ _ _ _ _ ?_
  rw [fdX8_gives_0]
  simp only [gt_nil, true_and, eq_self, gt_aload_n, gt_rfk, gw_nth, gt_get_r, gt_get_i, gt_get_z, gt_iload_n, gt_ink, gt_iaload, gt_s1_0, gt_s2_0, gt_s3_0, gt_s4_0, gt_s1_1, gt_s2_1, gt_s3_1, gt_s4_1, gt_acpy, gt_iret, gt_retz, bkX8_gives_0, ka0_0, ra0_0_1, ka0_2, la0_2]
  obtain ⟨c_1, h⟩ := gw_ife h
  refine ⟨c_1, ?_⟩
  obtain ⟨⟨r_2, μ_3⟩, e_4, h⟩ := gw_bnd h
  refine ⟨rfl, 0, 0, Nat.le_refl _, Nat.le_refl _, ok_X10_hasBit e_4 ?_⟩
  intro hbr_2
  dsimp only at h
  simp only [gt_nil, true_and, eq_self, gt_iret, gt_retz, Option.toList, List.cons_append, List.nil_append, Nat.add_zero, ka0_0, ra0_0_1, ka0_2, la0_2]
  cases h
  exact ⟨hbr_2, Nat.le_refl _, Nat.le_refl _, hq hbr_2⟩
def F_X4_touchFrame_24 (n0 : Nat) (a0 : Nat) (v1 : Int32) (μ : gw_M) : Option (Int32 × gw_M) := (if 0 ≤ v1 ∧ v1.toNatClampNeg < 10 then some ((μ (a0 + 5) v1.toNatClampNeg), μ) else none)
def F_X4_touchFrame (n0 : Nat) (a0 : Nat) (v1 : Int32) (v2 : Int32) (v3 : Int32) (μ : gw_M) : Option (Int32 × gw_M) := (if ¬ v2 = 1 then F_X4_touchFrame_24 n0 a0 v1 μ else (if 0 ≤ v1 ∧ v1.toNatClampNeg < 10 then gw_let (gw_up μ (a0 + 5) v1.toNatClampNeg v3) (fun (μ_3 : gw_M) => gw_let (gw_up μ_3 a0 4 ((μ_3 a0 4) ||| ((1 : Int32) <<< (v1 &&& 31)))) (fun (μ_4 : gw_M) => F_X4_touchFrame_24 n0 a0 v1 μ_4)) else none))
theorem B_X4_touchFrame_24 {l : Launch} {x : gw_C} {d : Nat} {S : gw_S} {Q : Option Value → gw_S → gw_M → Prop} {K : Nat → gw_Kt} (hK : gw_cl l x (d + 0) bsX4_touchFrame Q K) {a0 : Nat} (hS0 : gw_sh S 4 a0) {n0 : Nat} {v1} {u2 u3 : Value} {μ : gw_M} {r μ'} (h : F_X4_touchFrame_24 n0 a0 v1 μ = some (r, μ')) (hq : Q (some (.int r)) S μ') : K 24 [.ref a0, .int v1, u2, u3] [] S μ 0 0 := by
  have ka0_0 : gw_kd S a0 = 4 := (hS0 0 _ rfl).1
  have ra0_0_1 : gw_rf S a0 1 = a0 + 5 := (hS0 0 _ rfl).2.2 (1, 5) (by decide)
  have ka0_5 : gw_kd S (a0 + 5) = 12 := (hS0 5 _ rfl).1
  have la0_5 : gw_ln S (a0 + 5) = 10 := (hS0 5 _ rfl).2.1
  unfold F_X4_touchFrame_24 at h
  refine hK _ _ _ _ _ _ _ ?_
  rw [fdX4_touchFrame_24]
  simp only [gt_nil, true_and, eq_self, gt_aload_n, gt_rfk, gw_nth, gt_get_r, gt_get_i, gt_get_z, gt_iload_n, gt_ink, gt_iaload, gt_iret, gt_retz, bkX4_touchFrame_24, ka0_0, ra0_0_1, ka0_5, la0_5]
  obtain ⟨c_1, h⟩ := gw_ife h
  refine ⟨c_1, ?_⟩
  cases h
  exact ⟨Nat.le_refl _, Nat.le_refl _, hq⟩
theorem ok_X4_touchFrame {l : Launch} {x : gw_C} {d : Nat} {S : gw_S} {Q : Option Value → gw_S → gw_M → Prop} {v1 v2 v3 : Int32} {a0 : Nat} {n0 : Nat} {μ : gw_M} {r μ'} (hS0 : gw_sh S 4 a0) (h : F_X4_touchFrame n0 a0 v1 v2 v3 μ = some (r, μ')) (hq : Q (some (.int r)) S μ') : gw_ok l x (d + 1) sgX4_touchFrame 0 0 [.ref a0, .int v1, .int v2, .int v3] S μ Q := by
  refine gw_ok_of stX4_touchFrame (lv0 := [.ref a0, .int v1, .int v2, .int v3]) (Nat.le_of_ble_eq_true rfl) rfl rfl ?_
  intro K hK
  have ka0_0 : gw_kd S a0 = 4 := (hS0 0 _ rfl).1
  have ra0_0_1 : gw_rf S a0 1 = a0 + 5 := (hS0 0 _ rfl).2.2 (1, 5) (by decide)
  have ka0_5 : gw_kd S (a0 + 5) = 12 := (hS0 5 _ rfl).1
  have la0_5 : gw_ln S (a0 + 5) = 10 := (hS0 5 _ rfl).2.1
  unfold F_X4_touchFrame at h
  refine hK _ _ _ _ _ _ _ ?_
  rw [fdX4_touchFrame_0]
  simp only [gt_nil, true_and, eq_self, gt_iload_n, gt_ink, gw_nth, gt_iconst, gt_icmp, gt_aload_n, gt_rfk, gt_get_r, gt_get_i, gt_get_z, gt_iastore, gt_dup_i, gt_dup_r, gt_ishl, gt_ior, gt_put_i, gt_putz, bkX4_touchFrame_0, ka0_0, ra0_0_1, ka0_5, la0_5]
  refine ⟨fun c_1 => ?_, fun c_1 => ?_⟩
  · replace h := gw_ifp h c_1
    exact B_X4_touchFrame_24 hK hS0 h hq
  · replace h := gw_ifn h c_1
    obtain ⟨c_2, h⟩ := gw_ife h
    refine ⟨c_2, ?_⟩
    obtain ⟨μ_3, hμ_3, h⟩ := gw_lt h
    try rw [← hμ_3]
    obtain ⟨μ_4, hμ_4, h⟩ := gw_lt h
    try rw [← hμ_4]
    exact B_X4_touchFrame_24 hK hS0 h hq
def F_X9_isAhead (n0 : Nat) (a0 : Nat) (v1 : Int32) (v2 : Int32) (μ : gw_M) : Option (Int32 × gw_M) := (if 0 ≤ v1 ∧ v1.toNatClampNeg < 12 then (if 0 ≤ v2 ∧ v2.toNatClampNeg < 12 then (if (μ (a0 + 1) v1.toNatClampNeg) = (μ (a0 + 1) v2.toNatClampNeg) then (if 0 ≤ v1 ∧ v1.toNatClampNeg < 12 then (if 0 ≤ v2 ∧ v2.toNatClampNeg < 12 then (if (μ (a0 + 2) v1.toNatClampNeg) = (μ (a0 + 2) v2.toNatClampNeg) then (if v2 ≤ v1 then some (0, μ) else some (1, μ)) else (if 0 ≤ v1 ∧ v1.toNatClampNeg < 12 then (if 0 ≤ v2 ∧ v2.toNatClampNeg < 12 then (if (μ (a0 + 2) v2.toNatClampNeg) ≤ (μ (a0 + 2) v1.toNatClampNeg) then some (0, μ) else some (1, μ)) else none) else none)) else none) else none) else (if 0 ≤ v1 ∧ v1.toNatClampNeg < 12 then (if 0 ≤ v2 ∧ v2.toNatClampNeg < 12 then (if (μ (a0 + 1) v2.toNatClampNeg) ≤ (μ (a0 + 1) v1.toNatClampNeg) then some (0, μ) else some (1, μ)) else none) else none)) else none) else none)
theorem ok_X9_isAhead {l : Launch} {x : gw_C} {d : Nat} {S : gw_S} {Q : Option Value → gw_S → gw_M → Prop} {v1 v2 : Int32} {a0 : Nat} {n0 : Nat} {μ : gw_M} {r μ'} (hS0 : gw_sh S 9 a0) (h : F_X9_isAhead n0 a0 v1 v2 μ = some (r, μ')) (hq : ((r = 0 ∨ r = 1) → Q (some (.int r)) S μ')) : gw_ok l x (d + 1) sgX9_isAhead 0 0 [.ref a0, .int v1, .int v2] S μ Q := by
  refine gw_ok_of stX9_isAhead (lv0 := [.ref a0, .int v1, .int v2]) (Nat.le_of_ble_eq_true rfl) rfl rfl ?_
  intro K hK
  have ka0_0 : gw_kd S a0 = 9 := (hS0 0 _ rfl).1
  have ra0_0_0 : gw_rf S a0 0 = a0 + 1 := (hS0 0 _ rfl).2.2 (0, 1) (by decide)
  have ra0_0_1 : gw_rf S a0 1 = a0 + 2 := (hS0 0 _ rfl).2.2 (1, 2) (by decide)
  have ka0_1 : gw_kd S (a0 + 1) = 12 := (hS0 1 _ rfl).1
  have la0_1 : gw_ln S (a0 + 1) = 12 := (hS0 1 _ rfl).2.1
  have ka0_2 : gw_kd S (a0 + 2) = 12 := (hS0 2 _ rfl).1
  have la0_2 : gw_ln S (a0 + 2) = 12 := (hS0 2 _ rfl).2.1
  unfold F_X9_isAhead at h
  refine hK _ _ _ _ _ _ _ ?_
  rw [fdX9_isAhead_0]
  simp only [gt_nil, true_and, eq_self, gt_aload_n, gt_rfk, gw_nth, gt_get_r, gt_get_i, gt_get_z, gt_iload_n, gt_ink, gt_iaload, gt_icmp, gt_iconst, gt_goto, bkX9_isAhead_0, ka0_0, ra0_0_0, ra0_0_1, ka0_1, la0_1, ka0_2, la0_2]
  obtain ⟨c_1, h⟩ := gw_ife h
  refine ⟨c_1, ?_⟩
  obtain ⟨c_2, h⟩ := gw_ife h
  refine ⟨c_2, ?_⟩
  refine ⟨fun c_3 => ?_, fun c_3 => ?_⟩
  · replace h := gw_ifp h c_3
    refine hK _ _ _ _ _ _ _ ?_
    rw [fdX9_isAhead_36]
    simp only [gt_nil, true_and, eq_self, gt_aload_n, gt_rfk, gw_nth, gt_get_r, gt_get_i, gt_get_z, gt_iload_n, gt_ink, gt_iaload, gt_icmp, gt_iconst, gt_goto, bkX9_isAhead_36, ka0_0, ra0_0_0, ra0_0_1, ka0_1, la0_1, ka0_2, la0_2]
    obtain ⟨c_4, h⟩ := gw_ife h
    refine ⟨c_4, ?_⟩
    obtain ⟨c_5, h⟩ := gw_ife h
    refine ⟨c_5, ?_⟩
    refine ⟨fun c_6 => ?_, fun c_6 => ?_⟩
    · replace h := gw_ifp h c_6
      refine hK _ _ _ _ _ _ _ ?_
      rw [fdX9_isAhead_72]
      simp only [gt_nil, true_and, eq_self, gt_iload_n, gt_ink, gw_nth, gt_icmp, gt_iconst, gt_goto, bkX9_isAhead_72, ka0_0, ra0_0_0, ra0_0_1, ka0_1, la0_1, ka0_2, la0_2]
      refine ⟨fun c_7 => ?_, fun c_7 => ?_⟩
      · replace h := gw_ifp h c_7
        refine hK _ _ _ _ _ _ _ ?_
        rw [fdX9_isAhead_81]
        simp only [gt_nil, true_and, eq_self, gt_iconst, bkX9_isAhead_81, ka0_0, ra0_0_0, ra0_0_1, ka0_1, la0_1, ka0_2, la0_2]
        refine hK _ _ _ _ _ _ _ ?_
        rw [fdX9_isAhead_82]
        simp only [gt_nil, true_and, eq_self, gt_iret, gt_retz, bkX9_isAhead_82, ka0_0, ra0_0_0, ra0_0_1, ka0_1, la0_1, ka0_2, la0_2]
        cases h
        exact ⟨(Or.inl rfl), Nat.le_refl _, Nat.le_refl _, hq (Or.inl rfl)⟩
      · replace h := gw_ifn h c_7
        refine hK _ _ _ _ _ _ _ ?_
        rw [fdX9_isAhead_82]
        simp only [gt_nil, true_and, eq_self, gt_iret, gt_retz, bkX9_isAhead_82, ka0_0, ra0_0_0, ra0_0_1, ka0_1, la0_1, ka0_2, la0_2]
        cases h
        exact ⟨(Or.inr rfl), Nat.le_refl _, Nat.le_refl _, hq (Or.inr rfl)⟩
    · replace h := gw_ifn h c_6
      obtain ⟨c_8, h⟩ := gw_ife h
      refine ⟨c_8, ?_⟩
      obtain ⟨c_9, h⟩ := gw_ife h
      refine ⟨c_9, ?_⟩
      refine ⟨fun c_10 => ?_, fun c_10 => ?_⟩
      · replace h := gw_ifp h c_10
        refine hK _ _ _ _ _ _ _ ?_
        rw [fdX9_isAhead_70]
        simp only [gt_nil, true_and, eq_self, gt_iconst, bkX9_isAhead_70, ka0_0, ra0_0_0, ra0_0_1, ka0_1, la0_1, ka0_2, la0_2]
        refine hK _ _ _ _ _ _ _ ?_
        rw [fdX9_isAhead_71]
        simp only [gt_nil, true_and, eq_self, gt_iret, gt_retz, bkX9_isAhead_71, ka0_0, ra0_0_0, ra0_0_1, ka0_1, la0_1, ka0_2, la0_2]
        cases h
        exact ⟨(Or.inl rfl), Nat.le_refl _, Nat.le_refl _, hq (Or.inl rfl)⟩
      · replace h := gw_ifn h c_10
        refine hK _ _ _ _ _ _ _ ?_
        rw [fdX9_isAhead_71]
        simp only [gt_nil, true_and, eq_self, gt_iret, gt_retz, bkX9_isAhead_71, ka0_0, ra0_0_0, ra0_0_1, ka0_1, la0_1, ka0_2, la0_2]
        cases h
        exact ⟨(Or.inr rfl), Nat.le_refl _, Nat.le_refl _, hq (Or.inr rfl)⟩
  · replace h := gw_ifn h c_3
    obtain ⟨c_11, h⟩ := gw_ife h
    refine ⟨c_11, ?_⟩
    obtain ⟨c_12, h⟩ := gw_ife h
    refine ⟨c_12, ?_⟩
    refine ⟨fun c_13 => ?_, fun c_13 => ?_⟩
    · replace h := gw_ifp h c_13
      refine hK _ _ _ _ _ _ _ ?_
      rw [fdX9_isAhead_34]
      simp only [gt_nil, true_and, eq_self, gt_iconst, bkX9_isAhead_34, ka0_0, ra0_0_0, ra0_0_1, ka0_1, la0_1, ka0_2, la0_2]
      refine hK _ _ _ _ _ _ _ ?_
      rw [fdX9_isAhead_35]
      simp only [gt_nil, true_and, eq_self, gt_iret, gt_retz, bkX9_isAhead_35, ka0_0, ra0_0_0, ra0_0_1, ka0_1, la0_1, ka0_2, la0_2]
      cases h
      exact ⟨(Or.inl rfl), Nat.le_refl _, Nat.le_refl _, hq (Or.inl rfl)⟩
    · replace h := gw_ifn h c_13
      refine hK _ _ _ _ _ _ _ ?_
      rw [fdX9_isAhead_35]
      simp only [gt_nil, true_and, eq_self, gt_iret, gt_retz, bkX9_isAhead_35, ka0_0, ra0_0_0, ra0_0_1, ka0_1, la0_1, ka0_2, la0_2]
      cases h
      exact ⟨(Or.inr rfl), Nat.le_refl _, Nat.le_refl _, hq (Or.inr rfl)⟩
def F_X9_removeAt (n0 : Nat) (a0 : Nat) (v1 : Int32) (μ : gw_M) : Option (gw_M) := gw_let ((((μ a0 3) - (1 : Int32)) - v1)) (fun (w_1 : Int32) => (if 0 ≤ ((v1 + (1 : Int32)) : Int32) ∧ 0 ≤ (v1 : Int32) ∧ 0 ≤ (w_1 : Int32) ∧ (v1 + (1 : Int32)).toNatClampNeg + w_1.toNatClampNeg ≤ 12 ∧ v1.toNatClampNeg + w_1.toNatClampNeg ≤ 12 then gw_let (gw_cpy μ (a0 + 1) (a0 + 1) (v1 + (1 : Int32)).toNatClampNeg v1.toNatClampNeg w_1.toNatClampNeg) (fun (μ_2 : gw_M) => (if 0 ≤ ((v1 + (1 : Int32)) : Int32) ∧ 0 ≤ (v1 : Int32) ∧ 0 ≤ (w_1 : Int32) ∧ (v1 + (1 : Int32)).toNatClampNeg + w_1.toNatClampNeg ≤ 12 ∧ v1.toNatClampNeg + w_1.toNatClampNeg ≤ 12 then gw_let (gw_cpy μ_2 (a0 + 2) (a0 + 2) (v1 + (1 : Int32)).toNatClampNeg v1.toNatClampNeg w_1.toNatClampNeg) (fun (μ_4 : gw_M) => (if 0 ≤ ((v1 + (1 : Int32)) : Int32) ∧ 0 ≤ (v1 : Int32) ∧ 0 ≤ (w_1 : Int32) ∧ (v1 + (1 : Int32)).toNatClampNeg + w_1.toNatClampNeg ≤ 12 ∧ v1.toNatClampNeg + w_1.toNatClampNeg ≤ 12 then gw_let (gw_cpy μ_4 (a0 + 3) (a0 + 3) (v1 + (1 : Int32)).toNatClampNeg v1.toNatClampNeg w_1.toNatClampNeg) (fun (μ_6 : gw_M) => gw_let (gw_up μ_6 a0 3 ((μ_6 a0 3) - (1 : Int32))) (fun (μ_8 : gw_M) => some μ_8)) else none)) else none)) else none))
theorem ok_X9_removeAt {l : Launch} {x : gw_C} {d : Nat} {S : gw_S} {Q : Option Value → gw_S → gw_M → Prop} {v1 : Int32} {a0 : Nat} {n0 : Nat} {μ : gw_M} {μ'} (hS0 : gw_sh S 9 a0) (h : F_X9_removeAt n0 a0 v1 μ = some μ') (hq : Q none S μ') : gw_ok l x (d + 1) sgX9_removeAt 0 0 [.ref a0, .int v1] S μ Q := by
  refine gw_ok_of stX9_removeAt (lv0 := [.ref a0, .int v1, .retAddr 0]) (Nat.le_of_ble_eq_true rfl) rfl rfl ?_
  intro K hK
  have ka0_0 : gw_kd S a0 = 9 := (hS0 0 _ rfl).1
  have ra0_0_0 : gw_rf S a0 0 = a0 + 1 := (hS0 0 _ rfl).2.2 (0, 1) (by decide)
  have ra0_0_1 : gw_rf S a0 1 = a0 + 2 := (hS0 0 _ rfl).2.2 (1, 2) (by decide)
  have ra0_0_2 : gw_rf S a0 2 = a0 + 3 := (hS0 0 _ rfl).2.2 (2, 3) (by decide)
  have ka0_1 : gw_kd S (a0 + 1) = 12 := (hS0 1 _ rfl).1
  have la0_1 : gw_ln S (a0 + 1) = 12 := (hS0 1 _ rfl).2.1
  have ka0_2 : gw_kd S (a0 + 2) = 12 := (hS0 2 _ rfl).1
  have la0_2 : gw_ln S (a0 + 2) = 12 := (hS0 2 _ rfl).2.1
  have ka0_3 : gw_kd S (a0 + 3) = 12 := (hS0 3 _ rfl).1
  have la0_3 : gw_ln S (a0 + 3) = 12 := (hS0 3 _ rfl).2.1
  unfold F_X9_removeAt at h
  refine hK _ _ _ _ _ _ _ ?_
  rw [fdX9_removeAt_0]
  simp only [gt_nil, true_and, eq_self, gt_aload_n, gt_rfk, gw_nth, gt_get_r, gt_get_i, gt_get_z, gt_iconst, gt_isub, gt_iload_n, gt_ink, gt_istore_n, gw_set, gt_iadd, gt_s1_0, gt_s2_0, gt_s3_0, gt_s4_0, gt_s1_1, gt_s2_1, gt_s3_1, gt_s4_1, gt_acpy, gt_dup_i, gt_dup_r, gt_put_i, gt_putz, gt_vret, bkX9_removeAt_0, ka0_0, ra0_0_0, ra0_0_1, ra0_0_2, ka0_1, la0_1, ka0_2, la0_2, ka0_3, la0_3]
  obtain ⟨w_1, hw_1, h⟩ := gw_lt h
  try rw [← hw_1]
  obtain ⟨c_3, h⟩ := gw_ife h
  refine ⟨c_3.1, c_3.2.1, c_3.2.2.1, c_3.2.2.2.1, c_3.2.2.2.2, ?_⟩
  obtain ⟨μ_2, hμ_2, h⟩ := gw_lt h
  try rw [← hμ_2]
  obtain ⟨c_5, h⟩ := gw_ife h
  refine ⟨c_5.1, c_5.2.1, c_5.2.2.1, c_5.2.2.2.1, c_5.2.2.2.2, ?_⟩
  obtain ⟨μ_4, hμ_4, h⟩ := gw_lt h
  try rw [← hμ_4]
  obtain ⟨c_7, h⟩ := gw_ife h
  refine ⟨c_7.1, c_7.2.1, c_7.2.2.1, c_7.2.2.2.1, c_7.2.2.2.2, ?_⟩
  obtain ⟨μ_6, hμ_6, h⟩ := gw_lt h
  try rw [← hμ_6]
  obtain ⟨μ_8, hμ_8, h⟩ := gw_lt h
  try rw [← hμ_8]
  cases h
  exact ⟨Nat.le_refl _, Nat.le_refl _, hq⟩
def F_X7_advance (n0 : Nat) (a0 : Nat) (μ : gw_M) : Option (Int32 × gw_M) := gw_let ((μ a0 4)) (fun (w_1 : Int32) => (if (μ a0 3) ≤ (w_1 + (1 : Int32)) then gw_let (gw_up μ a0 4 0) (fun (μ_3 : gw_M) => some (w_1, μ_3)) else gw_let (gw_up μ a0 4 (w_1 + (1 : Int32))) (fun (μ_4 : gw_M) => some (w_1, μ_4))))
theorem ok_X7_advance {l : Launch} {x : gw_C} {d : Nat} {S : gw_S} {Q : Option Value → gw_S → gw_M → Prop} {a0 : Nat} {n0 : Nat} {μ : gw_M} {r μ'} (hS0 : gw_sh S 7 a0) (h : F_X7_advance n0 a0 μ = some (r, μ')) (hq : Q (some (.int r)) S μ') : gw_ok l x (d + 1) sgX7_advance 0 0 [.ref a0] S μ Q := by
  refine gw_ok_of stX7_advance (lv0 := [.ref a0, .retAddr 0]) (Nat.le_of_ble_eq_true rfl) rfl rfl ?_
  intro K hK
  have ka0_0 : gw_kd S a0 = 7 := (hS0 0 _ rfl).1
  unfold F_X7_advance at h
  refine hK _ _ _ _ _ _ _ ?_
  rw [fdX7_advance_0]
  simp only [gt_nil, true_and, eq_self, gt_aload_n, gt_rfk, gw_nth, gt_get_r, gt_get_i, gt_get_z, gt_istore_n, gw_set, gt_iload_n, gt_ink, gt_iconst, gt_iadd, gt_icmp, gt_goto, bkX7_advance_0, ka0_0]
  obtain ⟨w_1, hw_1, h⟩ := gw_lt h
  try rw [← hw_1]
  refine ⟨fun c_2 => ?_, fun c_2 => ?_⟩
  · replace h := gw_ifp h c_2
    refine hK _ _ _ _ _ _ _ ?_
    rw [fdX7_advance_22]
    simp only [gt_nil, true_and, eq_self, gt_iconst, bkX7_advance_22, ka0_0]
    refine hK _ _ _ _ _ _ _ ?_
    rw [fdX7_advance_23]
    simp only [gt_nil, true_and, eq_self, gt_put_i, gt_putz, gt_iload_n, gt_ink, gw_nth, gt_iret, gt_retz, bkX7_advance_23, ka0_0]
    obtain ⟨μ_3, hμ_3, h⟩ := gw_lt h
    try rw [← hμ_3]
    cases h
    exact ⟨Nat.le_refl _, Nat.le_refl _, hq⟩
  · replace h := gw_ifn h c_2
    refine hK _ _ _ _ _ _ _ ?_
    rw [fdX7_advance_23]
    simp only [gt_nil, true_and, eq_self, gt_put_i, gt_putz, gt_iload_n, gt_ink, gw_nth, gt_iret, gt_retz, bkX7_advance_23, ka0_0]
    obtain ⟨μ_4, hμ_4, h⟩ := gw_lt h
    try rw [← hμ_4]
    cases h
    exact ⟨Nat.le_refl _, Nat.le_refl _, hq⟩
def F_X10_isWay (n0 : Nat) (v0 : Int32) (μ : gw_M) : Option (Int32 × gw_M) := (F_X10_within n0 v0 0 2 μ).bind (fun (z_4 : Int32 × gw_M) => some (z_4.1, z_4.2))
theorem ok_X10_isWay {l : Launch} {x : gw_C} {d : Nat} {S : gw_S} {Q : Option Value → gw_S → gw_M → Prop} {v0 : Int32} {n0 : Nat} {μ : gw_M} {r μ'} (h : F_X10_isWay n0 v0 μ = some (r, μ')) (hq : ((r = 0 ∨ r = 1) → Q (some (.int r)) S μ')) : gw_ok l x (d + 2) sgX10_isWay 0 0 [.int v0] S μ Q := by
  refine gw_ok_of stX10_isWay (lv0 := [.int v0]) (Nat.le_of_ble_eq_true rfl) rfl rfl ?_
  intro K hK
  unfold F_X10_isWay at h
  refine hK _ _ _ _ _ _ _ ?_
  rw [fdX10_isWay_0]
  simp only [gt_nil, true_and, eq_self, gt_iload_n, gt_ink, gw_nth, gt_iconst, gt_s1_0, gt_s2_0, gt_s3_0, gt_s4_0, gt_s1_1, gt_s2_1, gt_s3_1, gt_s4_1, gt_acpy, gt_iret, gt_retz, bkX10_isWay_0]
  obtain ⟨⟨r_1, μ_2⟩, e_3, h⟩ := gw_bnd h
  refine ⟨rfl, 0, 0, Nat.le_refl _, Nat.le_refl _, ok_X10_within e_3 ?_⟩
  intro hbr_1
  dsimp only at h
  simp only [gt_nil, true_and, eq_self, gt_iret, gt_retz, Option.toList, List.cons_append, List.nil_append, Nat.add_zero]
  cases h
  exact ⟨hbr_1, Nat.le_refl _, Nat.le_refl _, hq hbr_1⟩
def F_X7_add (n0 : Nat) (a0 : Nat) (v1 : Int32) (v2 : Int32) (v3 : Int32) (μ : gw_M) : Option (gw_M) := (if 0 ≤ (μ a0 3) ∧ (μ a0 3).toNatClampNeg < 24 then gw_let (gw_up μ (a0 + 1) (μ a0 3).toNatClampNeg v1) (fun (μ_2 : gw_M) => (if 0 ≤ (μ_2 a0 3) ∧ (μ_2 a0 3).toNatClampNeg < 24 then gw_let (gw_up μ_2 (a0 + 2) (μ_2 a0 3).toNatClampNeg v2) (fun (μ_4 : gw_M) => (if 0 ≤ (μ_4 a0 3) ∧ (μ_4 a0 3).toNatClampNeg < 24 then gw_let (gw_up μ_4 (a0 + 3) (μ_4 a0 3).toNatClampNeg v3) (fun (μ_6 : gw_M) => gw_let (gw_up μ_6 a0 3 ((μ_6 a0 3) + (1 : Int32))) (fun (μ_7 : gw_M) => some μ_7)) else none)) else none)) else none)
theorem ok_X7_add {l : Launch} {x : gw_C} {d : Nat} {S : gw_S} {Q : Option Value → gw_S → gw_M → Prop} {v1 v2 v3 : Int32} {a0 : Nat} {n0 : Nat} {μ : gw_M} {μ'} (hS0 : gw_sh S 7 a0) (h : F_X7_add n0 a0 v1 v2 v3 μ = some μ') (hq : Q none S μ') : gw_ok l x (d + 1) sgX7_add 0 0 [.ref a0, .int v1, .int v2, .int v3] S μ Q := by
  refine gw_ok_of stX7_add (lv0 := [.ref a0, .int v1, .int v2, .int v3]) (Nat.le_of_ble_eq_true rfl) rfl rfl ?_
  intro K hK
  have ka0_0 : gw_kd S a0 = 7 := (hS0 0 _ rfl).1
  have ra0_0_0 : gw_rf S a0 0 = a0 + 1 := (hS0 0 _ rfl).2.2 (0, 1) (by decide)
  have ra0_0_1 : gw_rf S a0 1 = a0 + 2 := (hS0 0 _ rfl).2.2 (1, 2) (by decide)
  have ra0_0_2 : gw_rf S a0 2 = a0 + 3 := (hS0 0 _ rfl).2.2 (2, 3) (by decide)
  have ka0_1 : gw_kd S (a0 + 1) = 12 := (hS0 1 _ rfl).1
  have la0_1 : gw_ln S (a0 + 1) = 24 := (hS0 1 _ rfl).2.1
  have ka0_2 : gw_kd S (a0 + 2) = 12 := (hS0 2 _ rfl).1
  have la0_2 : gw_ln S (a0 + 2) = 24 := (hS0 2 _ rfl).2.1
  have ka0_3 : gw_kd S (a0 + 3) = 12 := (hS0 3 _ rfl).1
  have la0_3 : gw_ln S (a0 + 3) = 24 := (hS0 3 _ rfl).2.1
  unfold F_X7_add at h
  refine hK _ _ _ _ _ _ _ ?_
  rw [fdX7_add_0]
  simp only [gt_nil, true_and, eq_self, gt_aload_n, gt_rfk, gw_nth, gt_get_r, gt_get_i, gt_get_z, gt_iload_n, gt_ink, gt_iastore, gt_dup_i, gt_dup_r, gt_iconst, gt_iadd, gt_put_i, gt_putz, gt_vret, bkX7_add_0, ka0_0, ra0_0_0, ra0_0_1, ra0_0_2, ka0_1, la0_1, ka0_2, la0_2, ka0_3, la0_3]
  obtain ⟨c_1, h⟩ := gw_ife h
  refine ⟨c_1, ?_⟩
  obtain ⟨μ_2, hμ_2, h⟩ := gw_lt h
  try rw [← hμ_2]
  obtain ⟨c_3, h⟩ := gw_ife h
  refine ⟨c_3, ?_⟩
  obtain ⟨μ_4, hμ_4, h⟩ := gw_lt h
  try rw [← hμ_4]
  obtain ⟨c_5, h⟩ := gw_ife h
  refine ⟨c_5, ?_⟩
  obtain ⟨μ_6, hμ_6, h⟩ := gw_lt h
  try rw [← hμ_6]
  obtain ⟨μ_7, hμ_7, h⟩ := gw_lt h
  try rw [← hμ_7]
  cases h
  exact ⟨Nat.le_refl _, Nat.le_refl _, hq⟩
def F_X8_elderThan_38 (rec4 : Int32 → Int32 → Int32 → gw_M → Option (Int32 × gw_M)) (n0 : Nat) (a0 : Nat) (v1 : Int32) (v2 : Int32) (v3 : Int32) (μ : gw_M) : Option (Int32 × gw_M) := gw_let (v3 + 1) (fun (w_1 : Int32) => rec4 v1 v2 w_1 μ)
def F_X8_elderThan_4 (n0 : Nat) (a0 : Nat) : Nat → Int32 → Int32 → Int32 → gw_M → Option (Int32 × gw_M)
  | 0, _, _, _, _ => none
  | n + 1, v1, v2, v3, μ => (if 16 ≤ v3 then some (v2, μ) else (if 0 ≤ v3 ∧ v3.toNatClampNeg < 16 then (if (μ (a0 + 1) v3.toNatClampNeg) = (-1) then F_X8_elderThan_38 (F_X8_elderThan_4 n0 a0 n) n0 a0 v1 v2 v3 μ else (if 0 ≤ v3 ∧ v3.toNatClampNeg < 16 then (if 0 ≤ v1 ∧ v1.toNatClampNeg < 16 then (if (μ (a0 + 3) v1.toNatClampNeg) ≤ (μ (a0 + 3) v3.toNatClampNeg) then F_X8_elderThan_38 (F_X8_elderThan_4 n0 a0 n) n0 a0 v1 v2 v3 μ else gw_let (v2 + 1) (fun (w_7 : Int32) => F_X8_elderThan_38 (F_X8_elderThan_4 n0 a0 n) n0 a0 v1 w_7 v3 μ)) else none) else none)) else none))
def F_X8_elderThan (n0 : Nat) (a0 : Nat) (v1 : Int32) (μ : gw_M) : Option (Int32 × gw_M) := F_X8_elderThan_4 n0 a0 n0 v1 0 0 μ
theorem B_X8_elderThan_38 {l : Launch} {x : gw_C} {d : Nat} {S : gw_S} {Q : Option Value → gw_S → gw_M → Prop} {K : Nat → gw_Kt} (hK : gw_cl l x (d + 0) bsX8_elderThan Q K) {a0 : Nat} (hS0 : gw_sh S 8 a0) {rec4 : Int32 → Int32 → Int32 → gw_M → Option (Int32 × gw_M)} (hrec4 : ∀ {v1 v2 v3} {μ : gw_M} {r μ'}, rec4 v1 v2 v3 μ = some (r, μ') → Q (some (.int r)) S μ' → K 4 [.ref a0, .int v1, .int v2, .int v3] [] S μ 0 0) {n0 : Nat} {v1 v2 v3} {μ : gw_M} {r μ'} (h : F_X8_elderThan_38 rec4 n0 a0 v1 v2 v3 μ = some (r, μ')) (hq : Q (some (.int r)) S μ') : K 38 [.ref a0, .int v1, .int v2, .int v3] [] S μ 0 0 := by
  unfold F_X8_elderThan_38 at h
  refine hK _ _ _ _ _ _ _ ?_
  rw [fdX8_elderThan_38]
  simp only [gt_nil, true_and, eq_self, gt_iinc, gt_ink, gw_nth, gw_set, gt_goto, bkX8_elderThan_38]
  obtain ⟨w_1, hw_1, h⟩ := gw_lt h
  try rw [← hw_1]
  exact hrec4 h hq
theorem B_X8_elderThan_4 {l : Launch} {x : gw_C} {d : Nat} {S : gw_S} {Q : Option Value → gw_S → gw_M → Prop} {K : Nat → gw_Kt} (hK : gw_cl l x (d + 0) bsX8_elderThan Q K) {a0 : Nat} (hS0 : gw_sh S 8 a0) {n0 : Nat} : ∀ {n : Nat} {v1 v2 v3} {μ : gw_M} {r μ'}, F_X8_elderThan_4 n0 a0 n v1 v2 v3 μ = some (r, μ') → Q (some (.int r)) S μ' → K 4 [.ref a0, .int v1, .int v2, .int v3] [] S μ 0 0 := by
  have ka0_0 : gw_kd S a0 = 8 := (hS0 0 _ rfl).1
  have ra0_0_0 : gw_rf S a0 0 = a0 + 1 := (hS0 0 _ rfl).2.2 (0, 1) (by decide)
  have ra0_0_2 : gw_rf S a0 2 = a0 + 3 := (hS0 0 _ rfl).2.2 (2, 3) (by decide)
  have ka0_1 : gw_kd S (a0 + 1) = 12 := (hS0 1 _ rfl).1
  have la0_1 : gw_ln S (a0 + 1) = 16 := (hS0 1 _ rfl).2.1
  have ka0_3 : gw_kd S (a0 + 3) = 12 := (hS0 3 _ rfl).1
  have la0_3 : gw_ln S (a0 + 3) = 16 := (hS0 3 _ rfl).2.1
  intro n
  induction n with
  | zero => intro v1 v2 v3 μ r μ' h hq; simp [F_X8_elderThan_4] at h
  | succ n ih =>
    intro v1 v2 v3 μ r μ' h hq
    simp only [F_X8_elderThan_4] at h
    refine hK _ _ _ _ _ _ _ ?_
    rw [fdX8_elderThan_4]
    simp only [gt_nil, true_and, eq_self, gt_iload_n, gt_ink, gw_nth, gt_bipush, gt_icmp, gt_aload_n, gt_rfk, gt_get_r, gt_get_i, gt_get_z, gt_iaload, gt_iconst, gt_iinc, gw_set, bkX8_elderThan_4, ka0_0, ra0_0_0, ra0_0_2, ka0_1, la0_1, ka0_3, la0_3]
    refine ⟨fun c_1 => ?_, fun c_1 => ?_⟩
    · replace h := gw_ifp h c_1
      refine hK _ _ _ _ _ _ _ ?_
      rw [fdX8_elderThan_44]
      simp only [gt_nil, true_and, eq_self, gt_iload_n, gt_ink, gw_nth, gt_iret, gt_retz, bkX8_elderThan_44, ka0_0, ra0_0_0, ra0_0_2, ka0_1, la0_1, ka0_3, la0_3]
      cases h
      exact ⟨Nat.le_refl _, Nat.le_refl _, hq⟩
    · replace h := gw_ifn h c_1
      obtain ⟨c_2, h⟩ := gw_ife h
      refine ⟨c_2, ?_⟩
      refine ⟨fun c_3 => ?_, fun c_3 => ?_⟩
      · replace h := gw_ifp h c_3
        exact B_X8_elderThan_38 hK hS0 ih h hq
      · replace h := gw_ifn h c_3
        obtain ⟨c_4, h⟩ := gw_ife h
        refine ⟨c_4, ?_⟩
        obtain ⟨c_5, h⟩ := gw_ife h
        refine ⟨c_5, ?_⟩
        refine ⟨fun c_6 => ?_, fun c_6 => ?_⟩
        · replace h := gw_ifp h c_6
          exact B_X8_elderThan_38 hK hS0 ih h hq
        · replace h := gw_ifn h c_6
          obtain ⟨w_7, hw_7, h⟩ := gw_lt h
          try rw [← hw_7]
          exact B_X8_elderThan_38 hK hS0 ih h hq
theorem ok_X8_elderThan {l : Launch} {x : gw_C} {d : Nat} {S : gw_S} {Q : Option Value → gw_S → gw_M → Prop} {v1 : Int32} {a0 : Nat} {n0 : Nat} {μ : gw_M} {r μ'} (hS0 : gw_sh S 8 a0) (h : F_X8_elderThan n0 a0 v1 μ = some (r, μ')) (hq : Q (some (.int r)) S μ') : gw_ok l x (d + 1) sgX8_elderThan 0 0 [.ref a0, .int v1] S μ Q := by
  refine gw_ok_of stX8_elderThan (lv0 := [.ref a0, .int v1, .retAddr 0, .retAddr 0]) (Nat.le_of_ble_eq_true rfl) rfl rfl ?_
  intro K hK
  unfold F_X8_elderThan at h
  refine hK _ _ _ _ _ _ _ ?_
  rw [fdX8_elderThan_0]
  simp only [gt_nil, true_and, eq_self, gt_iconst, gt_istore_n, gw_set, bkX8_elderThan_0]
  exact B_X8_elderThan_4 hK hS0 h hq
def F_X8_byAge_29 (rec2 : Int32 → Int32 → gw_M → Option (Int32 × gw_M)) (n0 : Nat) (a0 : Nat) (v1 : Int32) (v2 : Int32) (μ : gw_M) : Option (Int32 × gw_M) := gw_let (v2 + 1) (fun (w_1 : Int32) => rec2 v1 w_1 μ)
def F_X8_byAge_2 (n0 : Nat) (a0 : Nat) : Nat → Int32 → Int32 → gw_M → Option (Int32 × gw_M)
  | 0, _, _, _ => none
  | n + 1, v1, v2, μ => (if 16 ≤ v2 then some ((-1), μ) else (if 0 ≤ v2 ∧ v2.toNatClampNeg < 16 then (if (μ (a0 + 1) v2.toNatClampNeg) = (-1) then F_X8_byAge_29 (F_X8_byAge_2 n0 a0 n) n0 a0 v1 v2 μ else (F_X8_elderThan n0 a0 v2 μ).bind (fun (z_7 : Int32 × gw_M) => (if ¬ z_7.1 = v1 then F_X8_byAge_29 (F_X8_byAge_2 n0 a0 n) n0 a0 v1 v2 z_7.2 else some (v2, z_7.2)))) else none))
def F_X8_byAge (n0 : Nat) (a0 : Nat) (v1 : Int32) (μ : gw_M) : Option (Int32 × gw_M) := F_X8_byAge_2 n0 a0 n0 v1 0 μ
theorem B_X8_byAge_29 {l : Launch} {x : gw_C} {d : Nat} {S : gw_S} {Q : Option Value → gw_S → gw_M → Prop} {K : Nat → gw_Kt} (hK : gw_cl l x (d + 1) bsX8_byAge Q K) {a0 : Nat} (hS0 : gw_sh S 8 a0) {rec2 : Int32 → Int32 → gw_M → Option (Int32 × gw_M)} (hrec2 : ∀ {v1 v2} {μ : gw_M} {r μ'}, rec2 v1 v2 μ = some (r, μ') → Q (some (.int r)) S μ' → K 2 [.ref a0, .int v1, .int v2] [] S μ 0 0) {n0 : Nat} {v1 v2} {μ : gw_M} {r μ'} (h : F_X8_byAge_29 rec2 n0 a0 v1 v2 μ = some (r, μ')) (hq : Q (some (.int r)) S μ') : K 29 [.ref a0, .int v1, .int v2] [] S μ 0 0 := by
  unfold F_X8_byAge_29 at h
  refine hK _ _ _ _ _ _ _ ?_
  rw [fdX8_byAge_29]
  simp only [gt_nil, true_and, eq_self, gt_iinc, gt_ink, gw_nth, gw_set, gt_goto, bkX8_byAge_29]
  obtain ⟨w_1, hw_1, h⟩ := gw_lt h
  try rw [← hw_1]
  exact hrec2 h hq
theorem B_X8_byAge_2 {l : Launch} {x : gw_C} {d : Nat} {S : gw_S} {Q : Option Value → gw_S → gw_M → Prop} {K : Nat → gw_Kt} (hK : gw_cl l x (d + 1) bsX8_byAge Q K) {a0 : Nat} (hS0 : gw_sh S 8 a0) {n0 : Nat} : ∀ {n : Nat} {v1 v2} {μ : gw_M} {r μ'}, F_X8_byAge_2 n0 a0 n v1 v2 μ = some (r, μ') → Q (some (.int r)) S μ' → K 2 [.ref a0, .int v1, .int v2] [] S μ 0 0 := by
  have ka0_0 : gw_kd S a0 = 8 := (hS0 0 _ rfl).1
  have ra0_0_0 : gw_rf S a0 0 = a0 + 1 := (hS0 0 _ rfl).2.2 (0, 1) (by decide)
  have ka0_1 : gw_kd S (a0 + 1) = 12 := (hS0 1 _ rfl).1
  have la0_1 : gw_ln S (a0 + 1) = 16 := (hS0 1 _ rfl).2.1
  intro n
  induction n with
  | zero => intro v1 v2 μ r μ' h hq; simp [F_X8_byAge_2] at h
  | succ n ih =>
    intro v1 v2 μ r μ' h hq
    simp only [F_X8_byAge_2] at h
    refine hK _ _ _ _ _ _ _ ?_
    rw [fdX8_byAge_2]
    simp only [gt_nil, true_and, eq_self, gt_iload_n, gt_ink, gw_nth, gt_bipush, gt_icmp, gt_aload_n, gt_rfk, gt_get_r, gt_get_i, gt_get_z, gt_iaload, gt_iconst, gt_v0, gt_v1, gt_v2, gt_v3, gt_v4, gt_v5, gt_iret, gt_retz, bkX8_byAge_2, ka0_0, ra0_0_0, ka0_1, la0_1]
    refine ⟨fun c_1 => ?_, fun c_1 => ?_⟩
    · replace h := gw_ifp h c_1
      refine hK _ _ _ _ _ _ _ ?_
      rw [fdX8_byAge_35]
      simp only [gt_nil, true_and, eq_self, gt_iconst, gt_iret, gt_retz, bkX8_byAge_35, ka0_0, ra0_0_0, ka0_1, la0_1]
      cases h
      exact ⟨Nat.le_refl _, Nat.le_refl _, hq⟩
    · replace h := gw_ifn h c_1
      obtain ⟨c_2, h⟩ := gw_ife h
      refine ⟨c_2, ?_⟩
      refine ⟨fun c_3 => ?_, fun c_3 => ?_⟩
      · replace h := gw_ifp h c_3
        exact B_X8_byAge_29 hK hS0 ih h hq
      · replace h := gw_ifn h c_3
        obtain ⟨⟨r_4, μ_5⟩, e_6, h⟩ := gw_bnd h
        refine ⟨rfl, 0, 0, Nat.le_refl _, Nat.le_refl _, ok_X8_elderThan hS0 e_6 ?_⟩
        dsimp only at h
        simp only [gt_nil, true_and, eq_self, gt_iload_n, gt_ink, gw_nth, gt_icmp, gt_iret, gt_retz, Option.toList, List.cons_append, List.nil_append, Nat.add_zero, ka0_0, ra0_0_0, ka0_1, la0_1]
        refine ⟨fun c_8 => ?_, fun c_8 => ?_⟩
        · replace h := gw_ifp h c_8
          exact B_X8_byAge_29 hK hS0 ih h hq
        · replace h := gw_ifn h c_8
          cases h
          exact ⟨Nat.le_refl _, Nat.le_refl _, hq⟩
theorem ok_X8_byAge {l : Launch} {x : gw_C} {d : Nat} {S : gw_S} {Q : Option Value → gw_S → gw_M → Prop} {v1 : Int32} {a0 : Nat} {n0 : Nat} {μ : gw_M} {r μ'} (hS0 : gw_sh S 8 a0) (h : F_X8_byAge n0 a0 v1 μ = some (r, μ')) (hq : Q (some (.int r)) S μ') : gw_ok l x (d + 2) sgX8_byAge 0 0 [.ref a0, .int v1] S μ Q := by
  refine gw_ok_of stX8_byAge (lv0 := [.ref a0, .int v1, .retAddr 0]) (Nat.le_of_ble_eq_true rfl) rfl rfl ?_
  intro K hK
  unfold F_X8_byAge at h
  refine hK _ _ _ _ _ _ _ ?_
  rw [fdX8_byAge_0]
  simp only [gt_nil, true_and, eq_self, gt_iconst, gt_istore_n, gw_set, bkX8_byAge_0]
  exact B_X8_byAge_2 hK hS0 h hq
def F_X9_add (n0 : Nat) (a0 : Nat) (v1 : Int32) (v2 : Int32) (v3 : Int32) (μ : gw_M) : Option (gw_M) := (if 0 ≤ (μ a0 3) ∧ (μ a0 3).toNatClampNeg < 12 then gw_let (gw_up μ (a0 + 1) (μ a0 3).toNatClampNeg v1) (fun (μ_2 : gw_M) => (if 0 ≤ (μ_2 a0 3) ∧ (μ_2 a0 3).toNatClampNeg < 12 then gw_let (gw_up μ_2 (a0 + 2) (μ_2 a0 3).toNatClampNeg v2) (fun (μ_4 : gw_M) => (if 0 ≤ (μ_4 a0 3) ∧ (μ_4 a0 3).toNatClampNeg < 12 then gw_let (gw_up μ_4 (a0 + 3) (μ_4 a0 3).toNatClampNeg v3) (fun (μ_6 : gw_M) => gw_let (gw_up μ_6 a0 3 ((μ_6 a0 3) + (1 : Int32))) (fun (μ_7 : gw_M) => some μ_7)) else none)) else none)) else none)
theorem ok_X9_add {l : Launch} {x : gw_C} {d : Nat} {S : gw_S} {Q : Option Value → gw_S → gw_M → Prop} {v1 v2 v3 : Int32} {a0 : Nat} {n0 : Nat} {μ : gw_M} {μ'} (hS0 : gw_sh S 9 a0) (h : F_X9_add n0 a0 v1 v2 v3 μ = some μ') (hq : Q none S μ') : gw_ok l x (d + 1) sgX9_add 0 0 [.ref a0, .int v1, .int v2, .int v3] S μ Q := by
  refine gw_ok_of stX9_add (lv0 := [.ref a0, .int v1, .int v2, .int v3]) (Nat.le_of_ble_eq_true rfl) rfl rfl ?_
  intro K hK
  have ka0_0 : gw_kd S a0 = 9 := (hS0 0 _ rfl).1
  have ra0_0_0 : gw_rf S a0 0 = a0 + 1 := (hS0 0 _ rfl).2.2 (0, 1) (by decide)
  have ra0_0_1 : gw_rf S a0 1 = a0 + 2 := (hS0 0 _ rfl).2.2 (1, 2) (by decide)
  have ra0_0_2 : gw_rf S a0 2 = a0 + 3 := (hS0 0 _ rfl).2.2 (2, 3) (by decide)
  have ka0_1 : gw_kd S (a0 + 1) = 12 := (hS0 1 _ rfl).1
  have la0_1 : gw_ln S (a0 + 1) = 12 := (hS0 1 _ rfl).2.1
  have ka0_2 : gw_kd S (a0 + 2) = 12 := (hS0 2 _ rfl).1
  have la0_2 : gw_ln S (a0 + 2) = 12 := (hS0 2 _ rfl).2.1
  have ka0_3 : gw_kd S (a0 + 3) = 12 := (hS0 3 _ rfl).1
  have la0_3 : gw_ln S (a0 + 3) = 12 := (hS0 3 _ rfl).2.1
  unfold F_X9_add at h
  refine hK _ _ _ _ _ _ _ ?_
  rw [fdX9_add_0]
  simp only [gt_nil, true_and, eq_self, gt_aload_n, gt_rfk, gw_nth, gt_get_r, gt_get_i, gt_get_z, gt_iload_n, gt_ink, gt_iastore, gt_dup_i, gt_dup_r, gt_iconst, gt_iadd, gt_put_i, gt_putz, gt_vret, bkX9_add_0, ka0_0, ra0_0_0, ra0_0_1, ra0_0_2, ka0_1, la0_1, ka0_2, la0_2, ka0_3, la0_3]
  obtain ⟨c_1, h⟩ := gw_ife h
  refine ⟨c_1, ?_⟩
  obtain ⟨μ_2, hμ_2, h⟩ := gw_lt h
  try rw [← hμ_2]
  obtain ⟨c_3, h⟩ := gw_ife h
  refine ⟨c_3, ?_⟩
  obtain ⟨μ_4, hμ_4, h⟩ := gw_lt h
  try rw [← hμ_4]
  obtain ⟨c_5, h⟩ := gw_ife h
  refine ⟨c_5, ?_⟩
  obtain ⟨μ_6, hμ_6, h⟩ := gw_lt h
  try rw [← hμ_6]
  obtain ⟨μ_7, hμ_7, h⟩ := gw_lt h
  try rw [← hμ_7]
  cases h
  exact ⟨Nat.le_refl _, Nat.le_refl _, hq⟩
def F_X10_isPage (n0 : Nat) (v0 : Int32) (μ : gw_M) : Option (Int32 × gw_M) := (F_X10_within n0 v0 0 15 μ).bind (fun (z_4 : Int32 × gw_M) => some (z_4.1, z_4.2))
theorem ok_X10_isPage {l : Launch} {x : gw_C} {d : Nat} {S : gw_S} {Q : Option Value → gw_S → gw_M → Prop} {v0 : Int32} {n0 : Nat} {μ : gw_M} {r μ'} (h : F_X10_isPage n0 v0 μ = some (r, μ')) (hq : ((r = 0 ∨ r = 1) → Q (some (.int r)) S μ')) : gw_ok l x (d + 2) sgX10_isPage 0 0 [.int v0] S μ Q := by
  refine gw_ok_of stX10_isPage (lv0 := [.int v0]) (Nat.le_of_ble_eq_true rfl) rfl rfl ?_
  intro K hK
  unfold F_X10_isPage at h
  refine hK _ _ _ _ _ _ _ ?_
  rw [fdX10_isPage_0]
  simp only [gt_nil, true_and, eq_self, gt_iload_n, gt_ink, gw_nth, gt_iconst, gt_bipush, gt_s1_0, gt_s2_0, gt_s3_0, gt_s4_0, gt_s1_1, gt_s2_1, gt_s3_1, gt_s4_1, gt_acpy, gt_iret, gt_retz, bkX10_isPage_0]
  obtain ⟨⟨r_1, μ_2⟩, e_3, h⟩ := gw_bnd h
  refine ⟨rfl, 0, 0, Nat.le_refl _, Nat.le_refl _, ok_X10_within e_3 ?_⟩
  intro hbr_1
  dsimp only at h
  simp only [gt_nil, true_and, eq_self, gt_iret, gt_retz, Option.toList, List.cons_append, List.nil_append, Nat.add_zero]
  cases h
  exact ⟨hbr_1, Nat.le_refl _, Nat.le_refl _, hq hbr_1⟩
def F_X10_isEvent (n0 : Nat) (v0 : Int32) (μ : gw_M) : Option (Int32 × gw_M) := (F_X10_within n0 v0 0 7 μ).bind (fun (z_4 : Int32 × gw_M) => some (z_4.1, z_4.2))
theorem ok_X10_isEvent {l : Launch} {x : gw_C} {d : Nat} {S : gw_S} {Q : Option Value → gw_S → gw_M → Prop} {v0 : Int32} {n0 : Nat} {μ : gw_M} {r μ'} (h : F_X10_isEvent n0 v0 μ = some (r, μ')) (hq : ((r = 0 ∨ r = 1) → Q (some (.int r)) S μ')) : gw_ok l x (d + 2) sgX10_isEvent 0 0 [.int v0] S μ Q := by
  refine gw_ok_of stX10_isEvent (lv0 := [.int v0]) (Nat.le_of_ble_eq_true rfl) rfl rfl ?_
  intro K hK
  unfold F_X10_isEvent at h
  refine hK _ _ _ _ _ _ _ ?_
  rw [fdX10_isEvent_0]
  simp only [gt_nil, true_and, eq_self, gt_iload_n, gt_ink, gw_nth, gt_iconst, gt_bipush, gt_s1_0, gt_s2_0, gt_s3_0, gt_s4_0, gt_s1_1, gt_s2_1, gt_s3_1, gt_s4_1, gt_acpy, gt_iret, gt_retz, bkX10_isEvent_0]
  obtain ⟨⟨r_1, μ_2⟩, e_3, h⟩ := gw_bnd h
  refine ⟨rfl, 0, 0, Nat.le_refl _, Nat.le_refl _, ok_X10_within e_3 ?_⟩
  intro hbr_1
  dsimp only at h
  simp only [gt_nil, true_and, eq_self, gt_iret, gt_retz, Option.toList, List.cons_append, List.nil_append, Nat.add_zero]
  cases h
  exact ⟨hbr_1, Nat.le_refl _, Nat.le_refl _, hq hbr_1⟩
def F_X10_isVector (n0 : Nat) (v0 : Int32) (μ : gw_M) : Option (Int32 × gw_M) := (F_X10_within n0 v0 0 15 μ).bind (fun (z_4 : Int32 × gw_M) => some (z_4.1, z_4.2))
theorem ok_X10_isVector {l : Launch} {x : gw_C} {d : Nat} {S : gw_S} {Q : Option Value → gw_S → gw_M → Prop} {v0 : Int32} {n0 : Nat} {μ : gw_M} {r μ'} (h : F_X10_isVector n0 v0 μ = some (r, μ')) (hq : ((r = 0 ∨ r = 1) → Q (some (.int r)) S μ')) : gw_ok l x (d + 2) sgX10_isVector 0 0 [.int v0] S μ Q := by
  refine gw_ok_of stX10_isVector (lv0 := [.int v0]) (Nat.le_of_ble_eq_true rfl) rfl rfl ?_
  intro K hK
  unfold F_X10_isVector at h
  refine hK _ _ _ _ _ _ _ ?_
  rw [fdX10_isVector_0]
  simp only [gt_nil, true_and, eq_self, gt_iload_n, gt_ink, gw_nth, gt_iconst, gt_bipush, gt_s1_0, gt_s2_0, gt_s3_0, gt_s4_0, gt_s1_1, gt_s2_1, gt_s3_1, gt_s4_1, gt_acpy, gt_iret, gt_retz, bkX10_isVector_0]
  obtain ⟨⟨r_1, μ_2⟩, e_3, h⟩ := gw_bnd h
  refine ⟨rfl, 0, 0, Nat.le_refl _, Nat.le_refl _, ok_X10_within e_3 ?_⟩
  intro hbr_1
  dsimp only at h
  simp only [gt_nil, true_and, eq_self, gt_iret, gt_retz, Option.toList, List.cons_append, List.nil_append, Nat.add_zero]
  cases h
  exact ⟨hbr_1, Nat.le_refl _, Nat.le_refl _, hq hbr_1⟩
def F_X10_isGuest_10 (n0 : Nat) (μ : gw_M) : Option (Int32 × gw_M) := some (1, μ)
def F_X10_isGuest (n0 : Nat) (v0 : Int32) (μ : gw_M) : Option (Int32 × gw_M) := (if v0 = 1 then F_X10_isGuest_10 n0 μ else (if ¬ v0 = 2 then some (0, μ) else F_X10_isGuest_10 n0 μ))
theorem B_X10_isGuest_10 {l : Launch} {x : gw_C} {d : Nat} {S : gw_S} {Q : Option Value → gw_S → gw_M → Prop} {K : Nat → gw_Kt} (hK : gw_cl l x (d + 0) bsX10_isGuest Q K) {n0 : Nat}  {u0 : Value} {μ : gw_M} {r μ'} (h : F_X10_isGuest_10 n0 μ = some (r, μ')) (hq : ((r = 0 ∨ r = 1) → Q (some (.int r)) S μ')) : K 10 [u0] [] S μ 0 0 := by
  unfold F_X10_isGuest_10 at h
  refine hK _ _ _ _ _ _ _ ?_
  rw [fdX10_isGuest_10]
  simp only [gt_nil, true_and, eq_self, gt_iconst, gt_goto, bkX10_isGuest_10]
  refine hK _ _ _ _ _ _ _ ?_
  rw [fdX10_isGuest_15]
  simp only [gt_nil, true_and, eq_self, gt_iret, gt_retz, bkX10_isGuest_15]
  cases h
  exact ⟨(Or.inr rfl), Nat.le_refl _, Nat.le_refl _, hq (Or.inr rfl)⟩
theorem ok_X10_isGuest {l : Launch} {x : gw_C} {d : Nat} {S : gw_S} {Q : Option Value → gw_S → gw_M → Prop} {v0 : Int32} {n0 : Nat} {μ : gw_M} {r μ'} (h : F_X10_isGuest n0 v0 μ = some (r, μ')) (hq : ((r = 0 ∨ r = 1) → Q (some (.int r)) S μ')) : gw_ok l x (d + 1) sgX10_isGuest 0 0 [.int v0] S μ Q := by
  refine gw_ok_of stX10_isGuest (lv0 := [.int v0]) (Nat.le_of_ble_eq_true rfl) rfl rfl ?_
  intro K hK
  unfold F_X10_isGuest at h
  refine hK _ _ _ _ _ _ _ ?_
  rw [fdX10_isGuest_0]
  simp only [gt_nil, true_and, eq_self, gt_iload_n, gt_ink, gw_nth, gt_iconst, gt_icmp, bkX10_isGuest_0]
  refine ⟨fun c_1 => ?_, fun c_1 => ?_⟩
  · replace h := gw_ifp h c_1
    exact B_X10_isGuest_10 hK h hq
  · replace h := gw_ifn h c_1
    refine ⟨fun c_2 => ?_, fun c_2 => ?_⟩
    · replace h := gw_ifp h c_2
      refine hK _ _ _ _ _ _ _ ?_
      rw [fdX10_isGuest_14]
      simp only [gt_nil, true_and, eq_self, gt_iconst, bkX10_isGuest_14]
      refine hK _ _ _ _ _ _ _ ?_
      rw [fdX10_isGuest_15]
      simp only [gt_nil, true_and, eq_self, gt_iret, gt_retz, bkX10_isGuest_15]
      cases h
      exact ⟨(Or.inl rfl), Nat.le_refl _, Nat.le_refl _, hq (Or.inl rfl)⟩
    · replace h := gw_ifn h c_2
      exact B_X10_isGuest_10 hK h hq
def F_X10_isInnerGuest (n0 : Nat) (v0 : Int32) (μ : gw_M) : Option (Int32 × gw_M) := (F_X10_within n0 v0 0 2 μ).bind (fun (z_4 : Int32 × gw_M) => some (z_4.1, z_4.2))
theorem ok_X10_isInnerGuest {l : Launch} {x : gw_C} {d : Nat} {S : gw_S} {Q : Option Value → gw_S → gw_M → Prop} {v0 : Int32} {n0 : Nat} {μ : gw_M} {r μ'} (h : F_X10_isInnerGuest n0 v0 μ = some (r, μ')) (hq : ((r = 0 ∨ r = 1) → Q (some (.int r)) S μ')) : gw_ok l x (d + 2) sgX10_isInnerGuest 0 0 [.int v0] S μ Q := by
  refine gw_ok_of stX10_isInnerGuest (lv0 := [.int v0]) (Nat.le_of_ble_eq_true rfl) rfl rfl ?_
  intro K hK
  unfold F_X10_isInnerGuest at h
  refine hK _ _ _ _ _ _ _ ?_
  rw [fdX10_isInnerGuest_0]
  simp only [gt_nil, true_and, eq_self, gt_iload_n, gt_ink, gw_nth, gt_iconst, gt_s1_0, gt_s2_0, gt_s3_0, gt_s4_0, gt_s1_1, gt_s2_1, gt_s3_1, gt_s4_1, gt_acpy, gt_iret, gt_retz, bkX10_isInnerGuest_0]
  obtain ⟨⟨r_1, μ_2⟩, e_3, h⟩ := gw_bnd h
  refine ⟨rfl, 0, 0, Nat.le_refl _, Nat.le_refl _, ok_X10_within e_3 ?_⟩
  intro hbr_1
  dsimp only at h
  simp only [gt_nil, true_and, eq_self, gt_iret, gt_retz, Option.toList, List.cons_append, List.nil_append, Nat.add_zero]
  cases h
  exact ⟨hbr_1, Nat.le_refl _, Nat.le_refl _, hq hbr_1⟩
def F_X10_mayHaveHandler_22 (n0 : Nat) (μ : gw_M) : Option (Int32 × gw_M) := some (1, μ)
def F_X10_mayHaveHandler (n0 : Nat) (v0 : Int32) (μ : gw_M) : Option (Int32 × gw_M) := (if v0 = 1 then F_X10_mayHaveHandler_22 n0 μ else (if v0 = 4 then F_X10_mayHaveHandler_22 n0 μ else (if v0 = 6 then F_X10_mayHaveHandler_22 n0 μ else (if ¬ v0 = 8 then some (0, μ) else F_X10_mayHaveHandler_22 n0 μ))))
theorem B_X10_mayHaveHandler_22 {l : Launch} {x : gw_C} {d : Nat} {S : gw_S} {Q : Option Value → gw_S → gw_M → Prop} {K : Nat → gw_Kt} (hK : gw_cl l x (d + 0) bsX10_mayHaveHandler Q K) {n0 : Nat}  {u0 : Value} {μ : gw_M} {r μ'} (h : F_X10_mayHaveHandler_22 n0 μ = some (r, μ')) (hq : ((r = 0 ∨ r = 1) → Q (some (.int r)) S μ')) : K 22 [u0] [] S μ 0 0 := by
  unfold F_X10_mayHaveHandler_22 at h
  refine hK _ _ _ _ _ _ _ ?_
  rw [fdX10_mayHaveHandler_22]
  simp only [gt_nil, true_and, eq_self, gt_iconst, gt_goto, bkX10_mayHaveHandler_22]
  refine hK _ _ _ _ _ _ _ ?_
  rw [fdX10_mayHaveHandler_27]
  simp only [gt_nil, true_and, eq_self, gt_iret, gt_retz, bkX10_mayHaveHandler_27]
  cases h
  exact ⟨(Or.inr rfl), Nat.le_refl _, Nat.le_refl _, hq (Or.inr rfl)⟩
theorem ok_X10_mayHaveHandler {l : Launch} {x : gw_C} {d : Nat} {S : gw_S} {Q : Option Value → gw_S → gw_M → Prop} {v0 : Int32} {n0 : Nat} {μ : gw_M} {r μ'} (h : F_X10_mayHaveHandler n0 v0 μ = some (r, μ')) (hq : ((r = 0 ∨ r = 1) → Q (some (.int r)) S μ')) : gw_ok l x (d + 1) sgX10_mayHaveHandler 0 0 [.int v0] S μ Q := by
  refine gw_ok_of stX10_mayHaveHandler (lv0 := [.int v0]) (Nat.le_of_ble_eq_true rfl) rfl rfl ?_
  intro K hK
  unfold F_X10_mayHaveHandler at h
  refine hK _ _ _ _ _ _ _ ?_
  rw [fdX10_mayHaveHandler_0]
  simp only [gt_nil, true_and, eq_self, gt_iload_n, gt_ink, gw_nth, gt_iconst, gt_icmp, gt_bipush, bkX10_mayHaveHandler_0]
  refine ⟨fun c_1 => ?_, fun c_1 => ?_⟩
  · replace h := gw_ifp h c_1
    exact B_X10_mayHaveHandler_22 hK h hq
  · replace h := gw_ifn h c_1
    refine ⟨fun c_2 => ?_, fun c_2 => ?_⟩
    · replace h := gw_ifp h c_2
      exact B_X10_mayHaveHandler_22 hK h hq
    · replace h := gw_ifn h c_2
      refine ⟨fun c_3 => ?_, fun c_3 => ?_⟩
      · replace h := gw_ifp h c_3
        exact B_X10_mayHaveHandler_22 hK h hq
      · replace h := gw_ifn h c_3
        refine ⟨fun c_4 => ?_, fun c_4 => ?_⟩
        · replace h := gw_ifp h c_4
          refine hK _ _ _ _ _ _ _ ?_
          rw [fdX10_mayHaveHandler_26]
          simp only [gt_nil, true_and, eq_self, gt_iconst, bkX10_mayHaveHandler_26]
          refine hK _ _ _ _ _ _ _ ?_
          rw [fdX10_mayHaveHandler_27]
          simp only [gt_nil, true_and, eq_self, gt_iret, gt_retz, bkX10_mayHaveHandler_27]
          cases h
          exact ⟨(Or.inl rfl), Nat.le_refl _, Nat.le_refl _, hq (Or.inl rfl)⟩
        · replace h := gw_ifn h c_4
          exact B_X10_mayHaveHandler_22 hK h hq
def F_X10_mayGo_28 (n0 : Nat) (a0 : Nat) (μ : gw_M) : Option (Int32 × gw_M) := some (0, μ)
def F_X10_mayGo (n0 : Nat) (a0 : Nat) (v1 : Int32) (v2 : Int32) (μ : gw_M) : Option (Int32 × gw_M) := (F_X10_within n0 v1 1 v2 μ).bind (fun (z_4 : Int32 × gw_M) => (if z_4.1 = 0 then F_X10_mayGo_28 n0 a0 z_4.2 else (if 99999 < ((z_4.2 (a0 + 1) 7) + v1) then F_X10_mayGo_28 n0 a0 z_4.2 else some (1, z_4.2))))
theorem B_X10_mayGo_28 {l : Launch} {x : gw_C} {d : Nat} {S : gw_S} {Q : Option Value → gw_S → gw_M → Prop} {K : Nat → gw_Kt} (hK : gw_cl l x (d + 1) bsX10_mayGo Q K) {a0 : Nat} (hS0 : gw_sh S 10 a0) {n0 : Nat}  {u1 u2 : Value} {μ : gw_M} {r μ'} (h : F_X10_mayGo_28 n0 a0 μ = some (r, μ')) (hq : ((r = 0 ∨ r = 1) → Q (some (.int r)) S μ')) : K 28 [.ref a0, u1, u2] [] S μ 0 0 := by
  unfold F_X10_mayGo_28 at h
  refine hK _ _ _ _ _ _ _ ?_
  rw [fdX10_mayGo_28]
  simp only [gt_nil, true_and, eq_self, gt_iconst, bkX10_mayGo_28]
  refine hK _ _ _ _ _ _ _ ?_
  rw [fdX10_mayGo_29]
  simp only [gt_nil, true_and, eq_self, gt_iret, gt_retz, bkX10_mayGo_29]
  cases h
  exact ⟨(Or.inl rfl), Nat.le_refl _, Nat.le_refl _, hq (Or.inl rfl)⟩
theorem ok_X10_mayGo {l : Launch} {x : gw_C} {d : Nat} {S : gw_S} {Q : Option Value → gw_S → gw_M → Prop} {v1 v2 : Int32} {a0 : Nat} {n0 : Nat} {μ : gw_M} {r μ'} (hS0 : gw_sh S 10 a0) (h : F_X10_mayGo n0 a0 v1 v2 μ = some (r, μ')) (hq : ((r = 0 ∨ r = 1) → Q (some (.int r)) S μ')) : gw_ok l x (d + 2) sgX10_mayGo 0 0 [.ref a0, .int v1, .int v2] S μ Q := by
  refine gw_ok_of stX10_mayGo (lv0 := [.ref a0, .int v1, .int v2]) (Nat.le_of_ble_eq_true rfl) rfl rfl ?_
  intro K hK
  have ka0_0 : gw_kd S a0 = 10 := (hS0 0 _ rfl).1
  have ra0_0_0 : gw_rf S a0 0 = a0 + 1 := (hS0 0 _ rfl).2.2 (0, 1) (by decide)
  have ka0_1 : gw_kd S (a0 + 1) = 3 := (hS0 1 _ rfl).1
  unfold F_X10_mayGo at h
  refine hK _ _ _ _ _ _ _ ?_
  rw [fdX10_mayGo_0]
  simp only [gt_nil, true_and, eq_self, gt_iload_n, gt_ink, gw_nth, gt_iconst, gt_s1_0, gt_s2_0, gt_s3_0, gt_s4_0, gt_s1_1, gt_s2_1, gt_s3_1, gt_s4_1, gt_acpy, gt_if, gt_aload_n, gt_rfk, gt_get_r, gt_get_i, gt_get_z, gt_iadd, gt_ldc_w, gt_icmp, gt_goto, bkX10_mayGo_0, ka0_0, ra0_0_0, ka0_1]
  obtain ⟨⟨r_1, μ_2⟩, e_3, h⟩ := gw_bnd h
  refine ⟨rfl, 0, 0, Nat.le_refl _, Nat.le_refl _, ok_X10_within e_3 ?_⟩
  intro hbr_1
  dsimp only at h
  simp only [gt_nil, true_and, eq_self, gt_if, gt_aload_n, gt_rfk, gw_nth, gt_get_r, gt_get_i, gt_get_z, gt_iload_n, gt_ink, gt_iadd, gt_ldc_w, gt_icmp, gt_iconst, gt_goto, Option.toList, List.cons_append, List.nil_append, Nat.add_zero, ka0_0, ra0_0_0, ka0_1]
  refine ⟨fun c_5 => ?_, fun c_5 => ?_⟩
  · replace h := gw_ifp h c_5
    exact B_X10_mayGo_28 hK hS0 h hq
  · replace h := gw_ifn h c_5
    refine ⟨fun c_6 => ?_, fun c_6 => ?_⟩
    · replace h := gw_ifp h c_6
      exact B_X10_mayGo_28 hK hS0 h hq
    · replace h := gw_ifn h c_6
      refine hK _ _ _ _ _ _ _ ?_
      rw [fdX10_mayGo_29]
      simp only [gt_nil, true_and, eq_self, gt_iret, gt_retz, bkX10_mayGo_29, ka0_0, ra0_0_0, ka0_1]
      cases h
      exact ⟨(Or.inr rfl), Nat.le_refl _, Nat.le_refl _, hq (Or.inr rfl)⟩
def F_X10_mostOfA_84 (n0 : Nat) (v0 : Int32) (μ : gw_M) : Option (Int32 × gw_M) := (if ¬ v0 = 1 then some (0, μ) else some (15, μ))
def F_X10_mostOfA (n0 : Nat) (v0 : Int32) (v1 : Int32) (μ : gw_M) : Option (Int32 × gw_M) := (if v1 = (0 : Int32) then some (15, μ) else (if v1 = ((0 : Int32) + 1) then some (15, μ) else (if v1 = (((0 : Int32) + 1) + 1) then some (15, μ) else (if v1 = ((((0 : Int32) + 1) + 1) + 1) then some (7, μ) else (if v1 = (((((0 : Int32) + 1) + 1) + 1) + 1) then some (0, μ) else (if v1 = ((((((0 : Int32) + 1) + 1) + 1) + 1) + 1) then some (0, μ) else (if v1 = (((((((0 : Int32) + 1) + 1) + 1) + 1) + 1) + 1) then (if ¬ v0 = 2 then some (0, μ) else some (15, μ)) else (if v1 = ((((((((0 : Int32) + 1) + 1) + 1) + 1) + 1) + 1) + 1) then F_X10_mostOfA_84 n0 v0 μ else (if v1 = (((((((((0 : Int32) + 1) + 1) + 1) + 1) + 1) + 1) + 1) + 1) then some (15, μ) else (if v1 = ((((((((((0 : Int32) + 1) + 1) + 1) + 1) + 1) + 1) + 1) + 1) + 1) then F_X10_mostOfA_84 n0 v0 μ else (if v1 = (((((((((((0 : Int32) + 1) + 1) + 1) + 1) + 1) + 1) + 1) + 1) + 1) + 1) then (if ¬ v0 = 1 then some ((-1), μ) else some (0, μ)) else (if v1 = ((((((((((((0 : Int32) + 1) + 1) + 1) + 1) + 1) + 1) + 1) + 1) + 1) + 1) + 1) then (if ¬ v0 = 1 then some ((-1), μ) else some (2, μ)) else some ((-1), μ)))))))))))))
theorem B_X10_mostOfA_84 {l : Launch} {x : gw_C} {d : Nat} {S : gw_S} {Q : Option Value → gw_S → gw_M → Prop} {K : Nat → gw_Kt} (hK : gw_cl l x (d + 0) bsX10_mostOfA Q K) {n0 : Nat} {v0} {u1 : Value} {μ : gw_M} {r μ'} (h : F_X10_mostOfA_84 n0 v0 μ = some (r, μ')) (hq : Q (some (.int r)) S μ') : K 84 [.int v0, u1] [] S μ 0 0 := by
  unfold F_X10_mostOfA_84 at h
  refine hK _ _ _ _ _ _ _ ?_
  rw [fdX10_mostOfA_84]
  simp only [gt_nil, true_and, eq_self, gt_iload_n, gt_ink, gw_nth, gt_iconst, gt_icmp, gt_bipush, gt_goto, bkX10_mostOfA_84]
  refine ⟨fun c_1 => ?_, fun c_1 => ?_⟩
  · replace h := gw_ifp h c_1
    refine hK _ _ _ _ _ _ _ ?_
    rw [fdX10_mostOfA_94]
    simp only [gt_nil, true_and, eq_self, gt_iconst, bkX10_mostOfA_94]
    refine hK _ _ _ _ _ _ _ ?_
    rw [fdX10_mostOfA_95]
    simp only [gt_nil, true_and, eq_self, gt_iret, gt_retz, bkX10_mostOfA_95]
    cases h
    exact ⟨Nat.le_refl _, Nat.le_refl _, hq⟩
  · replace h := gw_ifn h c_1
    refine hK _ _ _ _ _ _ _ ?_
    rw [fdX10_mostOfA_95]
    simp only [gt_nil, true_and, eq_self, gt_iret, gt_retz, bkX10_mostOfA_95]
    cases h
    exact ⟨Nat.le_refl _, Nat.le_refl _, hq⟩
theorem ok_X10_mostOfA {l : Launch} {x : gw_C} {d : Nat} {S : gw_S} {Q : Option Value → gw_S → gw_M → Prop} {v0 v1 : Int32} {n0 : Nat} {μ : gw_M} {r μ'} (h : F_X10_mostOfA n0 v0 v1 μ = some (r, μ')) (hq : Q (some (.int r)) S μ') : gw_ok l x (d + 1) sgX10_mostOfA 0 0 [.int v0, .int v1] S μ Q := by
  refine gw_ok_of stX10_mostOfA (lv0 := [.int v0, .int v1]) (Nat.le_of_ble_eq_true rfl) rfl rfl ?_
  intro K hK
  unfold F_X10_mostOfA at h
  refine hK _ _ _ _ _ _ _ ?_
  rw [fdX10_mostOfA_0]
  simp only [gt_nil, true_and, eq_self, gt_iload_n, gt_ink, gw_nth, gt_tsw, gw_sw, bkX10_mostOfA_0]
  refine ⟨fun c_1 => ?_, fun c_1 => ?_⟩
  · replace h := gw_ifp h c_1
    refine hK _ _ _ _ _ _ _ ?_
    rw [fdX10_mostOfA_64]
    simp only [gt_nil, true_and, eq_self, gt_bipush, gt_iret, gt_retz, bkX10_mostOfA_64]
    cases h
    exact ⟨Nat.le_refl _, Nat.le_refl _, hq⟩
  replace h := gw_ifn h c_1
  refine ⟨fun c_2 => ?_, fun c_2 => ?_⟩
  · replace h := gw_ifp h c_2
    refine hK _ _ _ _ _ _ _ ?_
    rw [fdX10_mostOfA_64]
    simp only [gt_nil, true_and, eq_self, gt_bipush, gt_iret, gt_retz, bkX10_mostOfA_64]
    cases h
    exact ⟨Nat.le_refl _, Nat.le_refl _, hq⟩
  replace h := gw_ifn h c_2
  refine ⟨fun c_3 => ?_, fun c_3 => ?_⟩
  · replace h := gw_ifp h c_3
    refine hK _ _ _ _ _ _ _ ?_
    rw [fdX10_mostOfA_64]
    simp only [gt_nil, true_and, eq_self, gt_bipush, gt_iret, gt_retz, bkX10_mostOfA_64]
    cases h
    exact ⟨Nat.le_refl _, Nat.le_refl _, hq⟩
  replace h := gw_ifn h c_3
  refine ⟨fun c_4 => ?_, fun c_4 => ?_⟩
  · replace h := gw_ifp h c_4
    refine hK _ _ _ _ _ _ _ ?_
    rw [fdX10_mostOfA_67]
    simp only [gt_nil, true_and, eq_self, gt_bipush, gt_iret, gt_retz, bkX10_mostOfA_67]
    cases h
    exact ⟨Nat.le_refl _, Nat.le_refl _, hq⟩
  replace h := gw_ifn h c_4
  refine ⟨fun c_5 => ?_, fun c_5 => ?_⟩
  · replace h := gw_ifp h c_5
    refine hK _ _ _ _ _ _ _ ?_
    rw [fdX10_mostOfA_70]
    simp only [gt_nil, true_and, eq_self, gt_iconst, gt_iret, gt_retz, bkX10_mostOfA_70]
    cases h
    exact ⟨Nat.le_refl _, Nat.le_refl _, hq⟩
  replace h := gw_ifn h c_5
  refine ⟨fun c_6 => ?_, fun c_6 => ?_⟩
  · replace h := gw_ifp h c_6
    refine hK _ _ _ _ _ _ _ ?_
    rw [fdX10_mostOfA_70]
    simp only [gt_nil, true_and, eq_self, gt_iconst, gt_iret, gt_retz, bkX10_mostOfA_70]
    cases h
    exact ⟨Nat.le_refl _, Nat.le_refl _, hq⟩
  replace h := gw_ifn h c_6
  refine ⟨fun c_7 => ?_, fun c_7 => ?_⟩
  · replace h := gw_ifp h c_7
    refine hK _ _ _ _ _ _ _ ?_
    rw [fdX10_mostOfA_72]
    simp only [gt_nil, true_and, eq_self, gt_iload_n, gt_ink, gw_nth, gt_iconst, gt_icmp, gt_bipush, gt_goto, bkX10_mostOfA_72]
    refine ⟨fun c_8 => ?_, fun c_8 => ?_⟩
    · replace h := gw_ifp h c_8
      refine hK _ _ _ _ _ _ _ ?_
      rw [fdX10_mostOfA_82]
      simp only [gt_nil, true_and, eq_self, gt_iconst, bkX10_mostOfA_82]
      refine hK _ _ _ _ _ _ _ ?_
      rw [fdX10_mostOfA_83]
      simp only [gt_nil, true_and, eq_self, gt_iret, gt_retz, bkX10_mostOfA_83]
      cases h
      exact ⟨Nat.le_refl _, Nat.le_refl _, hq⟩
    · replace h := gw_ifn h c_8
      refine hK _ _ _ _ _ _ _ ?_
      rw [fdX10_mostOfA_83]
      simp only [gt_nil, true_and, eq_self, gt_iret, gt_retz, bkX10_mostOfA_83]
      cases h
      exact ⟨Nat.le_refl _, Nat.le_refl _, hq⟩
  replace h := gw_ifn h c_7
  refine ⟨fun c_9 => ?_, fun c_9 => ?_⟩
  · replace h := gw_ifp h c_9
    exact B_X10_mostOfA_84 hK h hq
  replace h := gw_ifn h c_9
  refine ⟨fun c_10 => ?_, fun c_10 => ?_⟩
  · replace h := gw_ifp h c_10
    refine hK _ _ _ _ _ _ _ ?_
    rw [fdX10_mostOfA_64]
    simp only [gt_nil, true_and, eq_self, gt_bipush, gt_iret, gt_retz, bkX10_mostOfA_64]
    cases h
    exact ⟨Nat.le_refl _, Nat.le_refl _, hq⟩
  replace h := gw_ifn h c_10
  refine ⟨fun c_11 => ?_, fun c_11 => ?_⟩
  · replace h := gw_ifp h c_11
    exact B_X10_mostOfA_84 hK h hq
  replace h := gw_ifn h c_11
  refine ⟨fun c_12 => ?_, fun c_12 => ?_⟩
  · replace h := gw_ifp h c_12
    refine hK _ _ _ _ _ _ _ ?_
    rw [fdX10_mostOfA_96]
    simp only [gt_nil, true_and, eq_self, gt_iload_n, gt_ink, gw_nth, gt_iconst, gt_icmp, gt_goto, bkX10_mostOfA_96]
    refine ⟨fun c_13 => ?_, fun c_13 => ?_⟩
    · replace h := gw_ifp h c_13
      refine hK _ _ _ _ _ _ _ ?_
      rw [fdX10_mostOfA_105]
      simp only [gt_nil, true_and, eq_self, gt_iconst, bkX10_mostOfA_105]
      refine hK _ _ _ _ _ _ _ ?_
      rw [fdX10_mostOfA_106]
      simp only [gt_nil, true_and, eq_self, gt_iret, gt_retz, bkX10_mostOfA_106]
      cases h
      exact ⟨Nat.le_refl _, Nat.le_refl _, hq⟩
    · replace h := gw_ifn h c_13
      refine hK _ _ _ _ _ _ _ ?_
      rw [fdX10_mostOfA_106]
      simp only [gt_nil, true_and, eq_self, gt_iret, gt_retz, bkX10_mostOfA_106]
      cases h
      exact ⟨Nat.le_refl _, Nat.le_refl _, hq⟩
  replace h := gw_ifn h c_12
  refine ⟨fun c_14 => ?_, fun c_14 => ?_⟩
  · replace h := gw_ifp h c_14
    refine hK _ _ _ _ _ _ _ ?_
    rw [fdX10_mostOfA_107]
    simp only [gt_nil, true_and, eq_self, gt_iload_n, gt_ink, gw_nth, gt_iconst, gt_icmp, gt_goto, bkX10_mostOfA_107]
    refine ⟨fun c_15 => ?_, fun c_15 => ?_⟩
    · replace h := gw_ifp h c_15
      refine hK _ _ _ _ _ _ _ ?_
      rw [fdX10_mostOfA_116]
      simp only [gt_nil, true_and, eq_self, gt_iconst, bkX10_mostOfA_116]
      refine hK _ _ _ _ _ _ _ ?_
      rw [fdX10_mostOfA_117]
      simp only [gt_nil, true_and, eq_self, gt_iret, gt_retz, bkX10_mostOfA_117]
      cases h
      exact ⟨Nat.le_refl _, Nat.le_refl _, hq⟩
    · replace h := gw_ifn h c_15
      refine hK _ _ _ _ _ _ _ ?_
      rw [fdX10_mostOfA_117]
      simp only [gt_nil, true_and, eq_self, gt_iret, gt_retz, bkX10_mostOfA_117]
      cases h
      exact ⟨Nat.le_refl _, Nat.le_refl _, hq⟩
  replace h := gw_ifn h c_14
  refine hK _ _ _ _ _ _ _ ?_
  rw [fdX10_mostOfA_118]
  simp only [gt_nil, true_and, eq_self, gt_iconst, gt_iret, gt_retz, bkX10_mostOfA_118]
  cases h
  exact ⟨Nat.le_refl _, Nat.le_refl _, hq⟩
def F_X10_mostOfB_30 (n0 : Nat) (v1 : Int32) (s0 : Int32) (μ : gw_M) : Option (Int32 × gw_M) := (if ¬ v1 = 1 then (if s0 = 0 then some (0, μ) else some (15, μ)) else some (9999, μ))
def F_X10_mostOfB (n0 : Nat) (v0 : Int32) (v1 : Int32) (μ : gw_M) : Option (Int32 × gw_M) := (if ¬ v0 = 1 then (if ¬ v1 = 6 then F_X10_mostOfB_30 n0 v1 0 μ else F_X10_mostOfB_30 n0 v1 1 μ) else (if ¬ v1 = 7 then F_X10_mostOfB_30 n0 v1 0 μ else F_X10_mostOfB_30 n0 v1 1 μ))
theorem B_X10_mostOfB_30 {l : Launch} {x : gw_C} {d : Nat} {S : gw_S} {Q : Option Value → gw_S → gw_M → Prop} {K : Nat → gw_Kt} (hK : gw_cl l x (d + 0) bsX10_mostOfB Q K) {n0 : Nat} {v1 s0} {u0 u2 : Value} {μ : gw_M} {r μ'} (h : F_X10_mostOfB_30 n0 v1 s0 μ = some (r, μ')) (hq : Q (some (.int r)) S μ') : K 30 [u0, .int v1, u2] [.int s0] S μ 0 0 := by
  unfold F_X10_mostOfB_30 at h
  refine hK _ _ _ _ _ _ _ ?_
  rw [fdX10_mostOfB_30]
  simp only [gt_nil, true_and, eq_self, gt_istore_n, gw_set, gt_iload_n, gt_ink, gw_nth, gt_iconst, gt_icmp, gt_sipush, gt_iret, gt_retz, bkX10_mostOfB_30]
  refine ⟨fun c_1 => ?_, fun c_1 => ?_⟩
  · replace h := gw_ifp h c_1
    refine hK _ _ _ _ _ _ _ ?_
    rw [fdX10_mostOfB_40]
    simp only [gt_nil, true_and, eq_self, gt_iload_n, gt_ink, gw_nth, gt_if, gt_bipush, gt_goto, bkX10_mostOfB_40]
    refine ⟨fun c_2 => ?_, fun c_2 => ?_⟩
    · replace h := gw_ifp h c_2
      refine hK _ _ _ _ _ _ _ ?_
      rw [fdX10_mostOfB_49]
      simp only [gt_nil, true_and, eq_self, gt_iconst, bkX10_mostOfB_49]
      refine hK _ _ _ _ _ _ _ ?_
      rw [fdX10_mostOfB_50]
      simp only [gt_nil, true_and, eq_self, gt_iret, gt_retz, bkX10_mostOfB_50]
      cases h
      exact ⟨Nat.le_refl _, Nat.le_refl _, hq⟩
    · replace h := gw_ifn h c_2
      refine hK _ _ _ _ _ _ _ ?_
      rw [fdX10_mostOfB_50]
      simp only [gt_nil, true_and, eq_self, gt_iret, gt_retz, bkX10_mostOfB_50]
      cases h
      exact ⟨Nat.le_refl _, Nat.le_refl _, hq⟩
  · replace h := gw_ifn h c_1
    cases h
    exact ⟨Nat.le_refl _, Nat.le_refl _, hq⟩
theorem ok_X10_mostOfB {l : Launch} {x : gw_C} {d : Nat} {S : gw_S} {Q : Option Value → gw_S → gw_M → Prop} {v0 v1 : Int32} {n0 : Nat} {μ : gw_M} {r μ'} (h : F_X10_mostOfB n0 v0 v1 μ = some (r, μ')) (hq : Q (some (.int r)) S μ') : gw_ok l x (d + 1) sgX10_mostOfB 0 0 [.int v0, .int v1] S μ Q := by
  refine gw_ok_of stX10_mostOfB (lv0 := [.int v0, .int v1, .retAddr 0]) (Nat.le_of_ble_eq_true rfl) rfl rfl ?_
  intro K hK
  unfold F_X10_mostOfB at h
  refine hK _ _ _ _ _ _ _ ?_
  rw [fdX10_mostOfB_0]
  simp only [gt_nil, true_and, eq_self, gt_iload_n, gt_ink, gw_nth, gt_iconst, gt_icmp, gt_bipush, gt_goto, bkX10_mostOfB_0]
  refine ⟨fun c_1 => ?_, fun c_1 => ?_⟩
  · replace h := gw_ifp h c_1
    refine hK _ _ _ _ _ _ _ ?_
    rw [fdX10_mostOfB_19]
    simp only [gt_nil, true_and, eq_self, gt_iload_n, gt_ink, gw_nth, gt_bipush, gt_icmp, gt_iconst, gt_goto, bkX10_mostOfB_19]
    refine ⟨fun c_2 => ?_, fun c_2 => ?_⟩
    · replace h := gw_ifp h c_2
      refine hK _ _ _ _ _ _ _ ?_
      rw [fdX10_mostOfB_29]
      simp only [gt_nil, true_and, eq_self, gt_iconst, bkX10_mostOfB_29]
      exact B_X10_mostOfB_30 hK h hq
    · replace h := gw_ifn h c_2
      exact B_X10_mostOfB_30 hK h hq
  · replace h := gw_ifn h c_1
    refine ⟨fun c_3 => ?_, fun c_3 => ?_⟩
    · replace h := gw_ifp h c_3
      refine hK _ _ _ _ _ _ _ ?_
      rw [fdX10_mostOfB_15]
      simp only [gt_nil, true_and, eq_self, gt_iconst, gt_goto, bkX10_mostOfB_15]
      exact B_X10_mostOfB_30 hK h hq
    · replace h := gw_ifn h c_3
      exact B_X10_mostOfB_30 hK h hq
def F_X10_isAct_30 (n0 : Nat) (μ : gw_M) : Option (Int32 × gw_M) := some (0, μ)
def F_X10_isAct (n0 : Nat) (v0 : Int32) (v1 : Int32) (v2 : Int32) (v3 : Int32) (μ : gw_M) : Option (Int32 × gw_M) := (F_X10_mostOfA n0 v0 v1 μ).bind (fun (z_4 : Int32 × gw_M) => (F_X10_within n0 v2 0 z_4.1 z_4.2).bind (fun (z_8 : Int32 × gw_M) => (if z_8.1 = 0 then F_X10_isAct_30 n0 z_8.2 else (F_X10_mostOfB n0 v0 v1 z_8.2).bind (fun (z_13 : Int32 × gw_M) => (F_X10_within n0 v3 0 z_13.1 z_13.2).bind (fun (z_17 : Int32 × gw_M) => (if z_17.1 = 0 then F_X10_isAct_30 n0 z_17.2 else some (1, z_17.2)))))))
theorem B_X10_isAct_30 {l : Launch} {x : gw_C} {d : Nat} {S : gw_S} {Q : Option Value → gw_S → gw_M → Prop} {K : Nat → gw_Kt} (hK : gw_cl l x (d + 1) bsX10_isAct Q K) {n0 : Nat}  {u0 u1 u2 u3 : Value} {μ : gw_M} {r μ'} (h : F_X10_isAct_30 n0 μ = some (r, μ')) (hq : ((r = 0 ∨ r = 1) → Q (some (.int r)) S μ')) : K 30 [u0, u1, u2, u3] [] S μ 0 0 := by
  unfold F_X10_isAct_30 at h
  refine hK _ _ _ _ _ _ _ ?_
  rw [fdX10_isAct_30]
  simp only [gt_nil, true_and, eq_self, gt_iconst, bkX10_isAct_30]
  refine hK _ _ _ _ _ _ _ ?_
  rw [fdX10_isAct_31]
  simp only [gt_nil, true_and, eq_self, gt_iret, gt_retz, bkX10_isAct_31]
  cases h
  exact ⟨(Or.inl rfl), Nat.le_refl _, Nat.le_refl _, hq (Or.inl rfl)⟩
theorem ok_X10_isAct {l : Launch} {x : gw_C} {d : Nat} {S : gw_S} {Q : Option Value → gw_S → gw_M → Prop} {v0 v1 v2 v3 : Int32} {n0 : Nat} {μ : gw_M} {r μ'} (h : F_X10_isAct n0 v0 v1 v2 v3 μ = some (r, μ')) (hq : ((r = 0 ∨ r = 1) → Q (some (.int r)) S μ')) : gw_ok l x (d + 2) sgX10_isAct 0 0 [.int v0, .int v1, .int v2, .int v3] S μ Q := by
  refine gw_ok_of stX10_isAct (lv0 := [.int v0, .int v1, .int v2, .int v3]) (Nat.le_of_ble_eq_true rfl) rfl rfl ?_
  intro K hK
  unfold F_X10_isAct at h
  refine hK _ _ _ _ _ _ _ ?_
  rw [fdX10_isAct_0]
  simp only [gt_nil, true_and, eq_self, gt_iload_n, gt_ink, gw_nth, gt_iconst, gt_s1_0, gt_s2_0, gt_s3_0, gt_s4_0, gt_s1_1, gt_s2_1, gt_s3_1, gt_s4_1, gt_acpy, gt_if, gt_goto, bkX10_isAct_0]
  obtain ⟨⟨r_1, μ_2⟩, e_3, h⟩ := gw_bnd h
  refine ⟨rfl, 0, 0, Nat.le_refl _, Nat.le_refl _, ok_X10_mostOfA e_3 ?_⟩
  dsimp only at h
  simp only [gt_nil, true_and, eq_self, gt_s1_0, gt_s2_0, gt_s3_0, gt_s4_0, gt_s1_1, gt_s2_1, gt_s3_1, gt_s4_1, gt_acpy, gt_if, gt_iload_n, gt_ink, gw_nth, gt_iconst, gt_goto, Option.toList, List.cons_append, List.nil_append, Nat.add_zero]
  obtain ⟨⟨r_5, μ_6⟩, e_7, h⟩ := gw_bnd h
  refine ⟨rfl, 0, 0, Nat.le_refl _, Nat.le_refl _, ok_X10_within e_7 ?_⟩
  intro hbr_5
  dsimp only at h
  simp only [gt_nil, true_and, eq_self, gt_if, gt_iload_n, gt_ink, gw_nth, gt_iconst, gt_s1_0, gt_s2_0, gt_s3_0, gt_s4_0, gt_s1_1, gt_s2_1, gt_s3_1, gt_s4_1, gt_acpy, gt_goto, Option.toList, List.cons_append, List.nil_append, Nat.add_zero]
  refine ⟨fun c_9 => ?_, fun c_9 => ?_⟩
  · replace h := gw_ifp h c_9
    exact B_X10_isAct_30 hK h hq
  · replace h := gw_ifn h c_9
    obtain ⟨⟨r_10, μ_11⟩, e_12, h⟩ := gw_bnd h
    refine ⟨rfl, 0, 0, Nat.le_refl _, Nat.le_refl _, ok_X10_mostOfB e_12 ?_⟩
    dsimp only at h
    simp only [gt_nil, true_and, eq_self, gt_s1_0, gt_s2_0, gt_s3_0, gt_s4_0, gt_s1_1, gt_s2_1, gt_s3_1, gt_s4_1, gt_acpy, gt_if, gt_iconst, gt_goto, Option.toList, List.cons_append, List.nil_append, Nat.add_zero]
    obtain ⟨⟨r_14, μ_15⟩, e_16, h⟩ := gw_bnd h
    refine ⟨rfl, 0, 0, Nat.le_refl _, Nat.le_refl _, ok_X10_within e_16 ?_⟩
    intro hbr_14
    dsimp only at h
    simp only [gt_nil, true_and, eq_self, gt_if, gt_iconst, gt_goto, Option.toList, List.cons_append, List.nil_append, Nat.add_zero]
    refine ⟨fun c_18 => ?_, fun c_18 => ?_⟩
    · replace h := gw_ifp h c_18
      exact B_X10_isAct_30 hK h hq
    · replace h := gw_ifn h c_18
      refine hK _ _ _ _ _ _ _ ?_
      rw [fdX10_isAct_31]
      simp only [gt_nil, true_and, eq_self, gt_iret, gt_retz, bkX10_isAct_31]
      cases h
      exact ⟨(Or.inr rfl), Nat.le_refl _, Nat.le_refl _, hq (Or.inr rfl)⟩
def F_X10_isFrame (n0 : Nat) (v0 : Int32) (μ : gw_M) : Option (Int32 × gw_M) := (F_X10_within n0 v0 0 9 μ).bind (fun (z_4 : Int32 × gw_M) => some (z_4.1, z_4.2))
theorem ok_X10_isFrame {l : Launch} {x : gw_C} {d : Nat} {S : gw_S} {Q : Option Value → gw_S → gw_M → Prop} {v0 : Int32} {n0 : Nat} {μ : gw_M} {r μ'} (h : F_X10_isFrame n0 v0 μ = some (r, μ')) (hq : ((r = 0 ∨ r = 1) → Q (some (.int r)) S μ')) : gw_ok l x (d + 2) sgX10_isFrame 0 0 [.int v0] S μ Q := by
  refine gw_ok_of stX10_isFrame (lv0 := [.int v0]) (Nat.le_of_ble_eq_true rfl) rfl rfl ?_
  intro K hK
  unfold F_X10_isFrame at h
  refine hK _ _ _ _ _ _ _ ?_
  rw [fdX10_isFrame_0]
  simp only [gt_nil, true_and, eq_self, gt_iload_n, gt_ink, gw_nth, gt_iconst, gt_bipush, gt_s1_0, gt_s2_0, gt_s3_0, gt_s4_0, gt_s1_1, gt_s2_1, gt_s3_1, gt_s4_1, gt_acpy, gt_iret, gt_retz, bkX10_isFrame_0]
  obtain ⟨⟨r_1, μ_2⟩, e_3, h⟩ := gw_bnd h
  refine ⟨rfl, 0, 0, Nat.le_refl _, Nat.le_refl _, ok_X10_within e_3 ?_⟩
  intro hbr_1
  dsimp only at h
  simp only [gt_nil, true_and, eq_self, gt_iret, gt_retz, Option.toList, List.cons_append, List.nil_append, Nat.add_zero]
  cases h
  exact ⟨hbr_1, Nat.le_refl _, Nat.le_refl _, hq hbr_1⟩
def F_X10_isOpen_25 (n0 : Nat) (a0 : Nat) (μ : gw_M) : Option (Int32 × gw_M) := some (0, μ)
def F_X10_isOpen (n0 : Nat) (a0 : Nat) (v1 : Int32) (μ : gw_M) : Option (Int32 × gw_M) := (F_X10_isGuest n0 v1 μ).bind (fun (z_4 : Int32 × gw_M) => (if z_4.1 = 0 then F_X10_isOpen_25 n0 a0 z_4.2 else (F_X3_guest n0 (a0 + 1) v1 z_4.2).bind (fun (z_9 : Nat × gw_M) => (if (z_9.2 z_9.1 4) = 0 then F_X10_isOpen_25 n0 a0 z_9.2 else some (1, z_9.2)))))
theorem B_X10_isOpen_25 {l : Launch} {x : gw_C} {d : Nat} {S : gw_S} {Q : Option Value → gw_S → gw_M → Prop} {K : Nat → gw_Kt} (hK : gw_cl l x (d + 1) bsX10_isOpen Q K) {a0 : Nat} (hS0 : gw_sh S 10 a0) {n0 : Nat}  {u1 : Value} {μ : gw_M} {r μ'} (h : F_X10_isOpen_25 n0 a0 μ = some (r, μ')) (hq : ((r = 0 ∨ r = 1) → Q (some (.int r)) S μ')) : K 25 [.ref a0, u1] [] S μ 0 0 := by
  unfold F_X10_isOpen_25 at h
  refine hK _ _ _ _ _ _ _ ?_
  rw [fdX10_isOpen_25]
  simp only [gt_nil, true_and, eq_self, gt_iconst, bkX10_isOpen_25]
  refine hK _ _ _ _ _ _ _ ?_
  rw [fdX10_isOpen_26]
  simp only [gt_nil, true_and, eq_self, gt_iret, gt_retz, bkX10_isOpen_26]
  cases h
  exact ⟨(Or.inl rfl), Nat.le_refl _, Nat.le_refl _, hq (Or.inl rfl)⟩
theorem ok_X10_isOpen {l : Launch} {x : gw_C} {d : Nat} {S : gw_S} {Q : Option Value → gw_S → gw_M → Prop} {v1 : Int32} {a0 : Nat} {n0 : Nat} {μ : gw_M} {r μ'} (hS0 : gw_sh S 10 a0) (h : F_X10_isOpen n0 a0 v1 μ = some (r, μ')) (hq : ((r = 0 ∨ r = 1) → Q (some (.int r)) S μ')) : gw_ok l x (d + 2) sgX10_isOpen 0 0 [.ref a0, .int v1] S μ Q := by
  refine gw_ok_of stX10_isOpen (lv0 := [.ref a0, .int v1]) (Nat.le_of_ble_eq_true rfl) rfl rfl ?_
  intro K hK
  have ka0_0 : gw_kd S a0 = 10 := (hS0 0 _ rfl).1
  have ra0_0_0 : gw_rf S a0 0 = a0 + 1 := (hS0 0 _ rfl).2.2 (0, 1) (by decide)
  have ka0_1 : gw_kd S (a0 + 1) = 3 := (hS0 1 _ rfl).1
  unfold F_X10_isOpen at h
  refine hK _ _ _ _ _ _ _ ?_
  rw [fdX10_isOpen_0]
  simp only [gt_nil, true_and, eq_self, gt_iload_n, gt_ink, gw_nth, gt_s1_0, gt_s2_0, gt_s3_0, gt_s4_0, gt_s1_1, gt_s2_1, gt_s3_1, gt_s4_1, gt_acpy, gt_if, gt_aload_n, gt_rfk, gt_get_r, gt_get_i, gt_get_z, gt_v0, gt_v1, gt_v2, gt_v3, gt_v4, gt_v5, gt_iconst, gt_goto, bkX10_isOpen_0, ka0_0, ra0_0_0, ka0_1]
  obtain ⟨⟨r_1, μ_2⟩, e_3, h⟩ := gw_bnd h
  refine ⟨rfl, 0, 0, Nat.le_refl _, Nat.le_refl _, ok_X10_isGuest e_3 ?_⟩
  intro hbr_1
  dsimp only at h
  simp only [gt_nil, true_and, eq_self, gt_if, gt_aload_n, gt_rfk, gw_nth, gt_get_r, gt_get_i, gt_get_z, gt_iload_n, gt_ink, gt_v0, gt_v1, gt_v2, gt_v3, gt_v4, gt_v5, gt_iconst, gt_goto, Option.toList, List.cons_append, List.nil_append, Nat.add_zero, ka0_0, ra0_0_0, ka0_1]
  refine ⟨fun c_5 => ?_, fun c_5 => ?_⟩
  · replace h := gw_ifp h c_5
    exact B_X10_isOpen_25 hK hS0 h hq
  · replace h := gw_ifn h c_5
    obtain ⟨⟨r_6, μ_7⟩, e_8, h⟩ := gw_bnd h
    refine ⟨rfl, 0, 0, Nat.le_refl _, Nat.le_refl _, ok_X3_guest (gw_sub hS0 3 1 (by decide +kernel)) e_8 ?_⟩
    intro hsr_6
    have kr_6_0 : gw_kd S r_6 = 0 := (hsr_6 0 _ rfl).1
    dsimp only at h
    simp only [gt_nil, true_and, eq_self, gt_get_r, gt_get_i, gt_get_z, gt_if, gt_iconst, gt_goto, Option.toList, List.cons_append, List.nil_append, Nat.add_zero, ka0_0, ra0_0_0, ka0_1, kr_6_0]
    refine ⟨fun c_10 => ?_, fun c_10 => ?_⟩
    · replace h := gw_ifp h c_10
      exact B_X10_isOpen_25 hK hS0 h hq
    · replace h := gw_ifn h c_10
      refine hK _ _ _ _ _ _ _ ?_
      rw [fdX10_isOpen_26]
      simp only [gt_nil, true_and, eq_self, gt_iret, gt_retz, bkX10_isOpen_26, ka0_0, ra0_0_0, ka0_1, kr_6_0]
      cases h
      exact ⟨(Or.inr rfl), Nat.le_refl _, Nat.le_refl _, hq (Or.inr rfl)⟩
