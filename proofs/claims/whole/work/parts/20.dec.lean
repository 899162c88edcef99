def F_X4_areLike_40 (n0 : Nat) (a0 : Nat) (μ : gw_M) : Option (Int32) := some 0
def F_X4_areLike (n0 : Nat) (a0 : Nat) (v1 : Int32) (v2 : Int32) (μ : gw_M) : Option (Int32) := (F_X4_framesLedTo n0 a0 μ).bind (fun (r_1 : Int32) => (F_X10_hasBit n0 r_1 v1 μ).bind (fun (r_5 : Int32) => (if r_5 = 0 then F_X4_areLike_40 n0 a0 μ else (F_X10_hasBit n0 r_1 v2 μ).bind (fun (r_10 : Int32) => (if r_10 = 0 then F_X4_areLike_40 n0 a0 μ else (if 0 ≤ v1 ∧ v1.toNatClampNeg < 10 then (if 0 ≤ v2 ∧ v2.toNatClampNeg < 10 then (if ¬ (μ (a0 + 5) v1.toNatClampNeg) = (μ (a0 + 5) v2.toNatClampNeg) then F_X4_areLike_40 n0 a0 μ else some 1) else none) else none))))))
theorem B_X4_areLike_40 {l : Launch} {x : gw_C} {d : Nat} {S : gw_S} {Q : Option Value → gw_S → gw_M → Prop} {K : Nat → gw_Kt} {mc ms cc ss : Nat} (hcc : cc ≤ mc) (hss : ss ≤ ms) (hK : gw_cl l x (d + 1) mc ms bsX4_areLike Q K) {a0 : Nat} (hS0 : gw_sh S 4 a0) {n0 : Nat}  {u1 u2 u3 : Value} {μ : gw_M} {r} (h : F_X4_areLike_40 n0 a0 μ = some r) (hq : ((r = 0 ∨ r = 1) → Q (some (.int r)) S μ)) : K 40 [.ref a0, u1, u2, u3] [] S μ cc ss := by
  unfold F_X4_areLike_40 at h
  refine hK _ _ _ _ _ _ _ ?_
  rw [fdX4_areLike_40]
  simp only [gt_nil, true_and, eq_self, gt_iconst, bkX4_areLike_40]
  refine hK _ _ _ _ _ _ _ ?_
  rw [fdX4_areLike_41]
  simp only [gt_nil, true_and, eq_self, gt_iret, gt_retz, bkX4_areLike_41]
  obtain rfl := gw_inj1 h
  exact ⟨(Or.inl rfl), hcc, hss, hq (Or.inl rfl)⟩
theorem ok_X4_areLike {l : Launch} {x : gw_C} {d : Nat} {S : gw_S} {Q : Option Value → gw_S → gw_M → Prop} {v1 v2 : Int32} {a0 : Nat} {n0 : Nat} {μ : gw_M} {r} (hS0 : gw_sh S 4 a0) (h : F_X4_areLike n0 a0 v1 v2 μ = some r) (hq : ((r = 0 ∨ r = 1) → Q (some (.int r)) S μ)) : gw_ok l x (d + 2) sgX4_areLike 0 0 [.ref a0, .int v1, .int v2] S μ Q := by
  refine gw_ok_of stX4_areLike (lv0 := [.ref a0, .int v1, .int v2, .retAddr 0]) (Nat.le_of_ble_eq_true rfl) rfl rfl ?_
  intro K hK
  have hcc : 0 ≤ 0 := Nat.zero_le _
  have hss : 0 ≤ 0 := Nat.zero_le _
  have ka0_0 : gw_kd S a0 = 4 := (hS0 0 _ rfl).1
  have ra0_0_1 : gw_rf S a0 1 = a0 + 5 := (hS0 0 _ rfl).2.2 (1, 5) (by decide)
  have ka0_5 : gw_kd S (a0 + 5) = 12 := (hS0 5 _ rfl).1
  have la0_5 : gw_ln S (a0 + 5) = 10 := (hS0 5 _ rfl).2.1
  unfold F_X4_areLike at h
  refine hK _ _ _ _ _ _ _ ?_
  rw [fdX4_areLike_0]
  simp only [gt_nil, true_and, eq_self, gt_aload_n, gt_rfk, gw_nth, gt_v0, gt_v1, gt_v2, gt_v3, gt_v4, gt_v5, gt_istore_n, gw_set, gt_iload_n, gt_ink, gt_s1_0, gt_s2_0, gt_s3_0, gt_s4_0, gt_s1_1, gt_s2_1, gt_s3_1, gt_s4_1, gt_acpy, gt_if, gt_get_r, gt_get_i, gt_get_z, gt_iaload, gt_icmp, gt_iconst, gt_goto, bkX4_areLike_0, ka0_0, ra0_0_1, ka0_5, la0_5]
  obtain ⟨r_1, e_3, h⟩ := gw_bnd h
  refine ⟨rfl, 0, 0, hcc, hss, ok_X4_framesLedTo hS0 e_3 ?_⟩
  simp only [gt_nil, true_and, eq_self, gt_istore_n, gw_set, gt_iload_n, gt_ink, gw_nth, gt_s1_0, gt_s2_0, gt_s3_0, gt_s4_0, gt_s1_1, gt_s2_1, gt_s3_1, gt_s4_1, gt_acpy, gt_if, gt_aload_n, gt_rfk, gt_get_r, gt_get_i, gt_get_z, gt_iaload, gt_icmp, gt_iconst, gt_goto, Option.toList, List.cons_append, List.nil_append, Nat.add_zero, ka0_0, ra0_0_1, ka0_5, la0_5]
  obtain ⟨r_5, e_7, h⟩ := gw_bnd h
  refine ⟨rfl, 0, 0, hcc, hss, ok_X10_hasBit e_7 ?_⟩
  intro hbr_5
  simp only [gt_nil, true_and, eq_self, gt_if, gt_iload_n, gt_ink, gw_nth, gt_s1_0, gt_s2_0, gt_s3_0, gt_s4_0, gt_s1_1, gt_s2_1, gt_s3_1, gt_s4_1, gt_acpy, gt_aload_n, gt_rfk, gt_get_r, gt_get_i, gt_get_z, gt_iaload, gt_icmp, gt_iconst, gt_goto, Option.toList, List.cons_append, List.nil_append, Nat.add_zero, ka0_0, ra0_0_1, ka0_5, la0_5]
  refine ⟨fun c_9 => ?_, fun c_9 => ?_⟩
  · replace h := gw_ifp h c_9
    exact B_X4_areLike_40 hcc hss hK hS0 h hq
  · replace h := gw_ifn h c_9
    obtain ⟨r_10, e_12, h⟩ := gw_bnd h
    refine ⟨rfl, 0, 0, hcc, hss, ok_X10_hasBit e_12 ?_⟩
    intro hbr_10
    simp only [gt_nil, true_and, eq_self, gt_if, gt_aload_n, gt_rfk, gw_nth, gt_get_r, gt_get_i, gt_get_z, gt_iload_n, gt_ink, gt_iaload, gt_icmp, gt_iconst, gt_goto, Option.toList, List.cons_append, List.nil_append, Nat.add_zero, ka0_0, ra0_0_1, ka0_5, la0_5]
    refine ⟨fun c_14 => ?_, fun c_14 => ?_⟩
    · replace h := gw_ifp h c_14
      exact B_X4_areLike_40 hcc hss hK hS0 h hq
    · replace h := gw_ifn h c_14
      obtain ⟨c_15, h⟩ := gw_ife h
      refine ⟨c_15, ?_⟩
      obtain ⟨c_16, h⟩ := gw_ife h
      refine ⟨c_16, ?_⟩
      refine ⟨fun c_17 => ?_, fun c_17 => ?_⟩
      · replace h := gw_ifp2 (gw_c2_ne _ _) h c_17
        exact B_X4_areLike_40 hcc hss hK hS0 h hq
      · replace h := gw_ifn2 (gw_c2_ne _ _) h c_17
        refine hK _ _ _ _ _ _ _ ?_
        rw [fdX4_areLike_41]
        simp only [gt_nil, true_and, eq_self, gt_iret, gt_retz, bkX4_areLike_41, ka0_0, ra0_0_1, ka0_5, la0_5]
        obtain rfl := gw_inj1 h
        exact ⟨(Or.inr rfl), hcc, hss, hq (Or.inr rfl)⟩
def F_X4_merge_58 (rec5 : Int32 → Int32 → Int32 → Int32 → gw_M → Option (Int32 × gw_M)) (n0 : Nat) (a0 : Nat) (v1 : Int32) (v2 : Int32) (v3 : Int32) (v4 : Int32) (μ : gw_M) : Option (Int32 × gw_M) := gw_let (v4 + 1) (fun (w_1 : Int32) => rec5 v1 v2 v3 w_1 μ)
def F_X4_merge_37 (rec5 : Int32 → Int32 → Int32 → Int32 → gw_M → Option (Int32 × gw_M)) (n0 : Nat) (a0 : Nat) (v1 : Int32) (v2 : Int32) (v3 : Int32) (v4 : Int32) (μ : gw_M) : Option (Int32 × gw_M) := (if 0 ≤ v4 ∧ v4.toNatClampNeg < 16 then (if ¬ (μ (a0 + 2) v4.toNatClampNeg) = v1 then F_X4_merge_58 rec5 n0 a0 v1 v2 v3 v4 μ else gw_let ((v3 ||| ((1 : Int32) <<< (v4 &&& 31)))) (fun (w_3 : Int32) => F_X4_merge_58 rec5 n0 a0 v1 v2 w_3 v4 μ)) else none)
def F_X4_merge_5 (n0 : Nat) (a0 : Nat) : Nat → Int32 → Int32 → Int32 → Int32 → gw_M → Option (Int32 × gw_M)
  | 0, _, _, _, _, _ => none
  | n + 1, v1, v2, v3, v4, μ => (if 16 ≤ v4 then gw_let (gw_up μ a0 3 ((μ a0 3) ||| v3)) (fun (μ_2 : gw_M) => some (v3, μ_2)) else (if 0 ≤ v4 ∧ v4.toNatClampNeg < 16 then (if ¬ (μ (a0 + 2) v4.toNatClampNeg) = v2 then F_X4_merge_37 (F_X4_merge_5 n0 a0 n) n0 a0 v1 v2 v3 v4 μ else (if 0 ≤ v4 ∧ v4.toNatClampNeg < 16 then gw_let (gw_up μ (a0 + 2) v4.toNatClampNeg v1) (fun (μ_6 : gw_M) => F_X4_merge_37 (F_X4_merge_5 n0 a0 n) n0 a0 v1 v2 v3 v4 μ_6) else none)) else none))
def F_X4_merge (n0 : Nat) (a0 : Nat) (v1 : Int32) (v2 : Int32) (μ : gw_M) : Option (Int32 × gw_M) := F_X4_merge_5 n0 a0 n0 v1 v2 0 0 μ
theorem B_X4_merge_58 {l : Launch} {x : gw_C} {d : Nat} {S : gw_S} {Q : Option Value → gw_S → gw_M → Prop} {K : Nat → gw_Kt} {mc ms cc ss : Nat} (hcc : cc ≤ mc) (hss : ss ≤ ms) (hK : gw_cl l x (d + 0) mc ms bsX4_merge Q K) {a0 : Nat} (hS0 : gw_sh S 4 a0) {rec5 : Int32 → Int32 → Int32 → Int32 → gw_M → Option (Int32 × gw_M)} (hrec5 : ∀ {v1 v2 v3 v4} {μ : gw_M} {r μ'}, rec5 v1 v2 v3 v4 μ = some (r, μ') → Q (some (.int r)) S μ' → K 5 [.ref a0, .int v1, .int v2, .int v3, .int v4] [] S μ cc ss) {n0 : Nat} {v1 v2 v3 v4} {μ : gw_M} {r μ'} (h : F_X4_merge_58 rec5 n0 a0 v1 v2 v3 v4 μ = some (r, μ')) (hq : Q (some (.int r)) S μ') : K 58 [.ref a0, .int v1, .int v2, .int v3, .int v4] [] S μ cc ss := by
  unfold F_X4_merge_58 at h
  refine hK _ _ _ _ _ _ _ ?_
  rw [fdX4_merge_58]
  simp only [gt_nil, true_and, eq_self, gt_iinc, gt_ink, gw_nth, gw_set, gt_goto, bkX4_merge_58]
  obtain ⟨w_1, hw_1, h⟩ := gw_lt h
  try rw [← hw_1]
  exact hrec5 h hq
theorem B_X4_merge_37 {l : Launch} {x : gw_C} {d : Nat} {S : gw_S} {Q : Option Value → gw_S → gw_M → Prop} {K : Nat → gw_Kt} {mc ms cc ss : Nat} (hcc : cc ≤ mc) (hss : ss ≤ ms) (hK : gw_cl l x (d + 0) mc ms bsX4_merge Q K) {a0 : Nat} (hS0 : gw_sh S 4 a0) {rec5 : Int32 → Int32 → Int32 → Int32 → gw_M → Option (Int32 × gw_M)} (hrec5 : ∀ {v1 v2 v3 v4} {μ : gw_M} {r μ'}, rec5 v1 v2 v3 v4 μ = some (r, μ') → Q (some (.int r)) S μ' → K 5 [.ref a0, .int v1, .int v2, .int v3, .int v4] [] S μ cc ss) {n0 : Nat} {v1 v2 v3 v4} {μ : gw_M} {r μ'} (h : F_X4_merge_37 rec5 n0 a0 v1 v2 v3 v4 μ = some (r, μ')) (hq : Q (some (.int r)) S μ') : K 37 [.ref a0, .int v1, .int v2, .int v3, .int v4] [] S μ cc ss := by
  have ka0_0 : gw_kd S a0 = 4 := (hS0 0 _ rfl).1
  have ra0_0_0 : gw_rf S a0 0 = a0 + 1 := (hS0 0 _ rfl).2.2 (0, 1) (by decide)
  have ka0_1 : gw_kd S (a0 + 1) = 8 := (hS0 1 _ rfl).1
  have ra0_1_0 : gw_rf S (a0 + 1) 0 = a0 + 2 := (hS0 1 _ rfl).2.2 (0, 2) (by decide)
  have ka0_2 : gw_kd S (a0 + 2) = 12 := (hS0 2 _ rfl).1
  have la0_2 : gw_ln S (a0 + 2) = 16 := (hS0 2 _ rfl).2.1
  unfold F_X4_merge_37 at h
  refine hK _ _ _ _ _ _ _ ?_
  rw [fdX4_merge_37]
  simp only [gt_nil, true_and, eq_self, gt_aload_n, gt_rfk, gw_nth, gt_get_r, gt_get_i, gt_get_z, gt_iload, gt_ink, gt_iaload, gt_iload_n, gt_icmp, gt_iconst, gt_ishl, gt_ior, gt_istore_n, gw_set, bkX4_merge_37, ka0_0, ra0_0_0, ka0_1, ra0_1_0, ka0_2, la0_2]
  obtain ⟨c_1, h⟩ := gw_ife h
  refine ⟨c_1, ?_⟩
  refine ⟨fun c_2 => ?_, fun c_2 => ?_⟩
  · replace h := gw_ifp2 (gw_c2_ne _ _) h c_2
    exact B_X4_merge_58 hcc hss hK hS0 hrec5 h hq
  · replace h := gw_ifn2 (gw_c2_ne _ _) h c_2
    obtain ⟨w_3, hw_3, h⟩ := gw_lt h
    try rw [← hw_3]
    exact B_X4_merge_58 hcc hss hK hS0 hrec5 h hq
theorem B_X4_merge_5 {l : Launch} {x : gw_C} {d : Nat} {S : gw_S} {Q : Option Value → gw_S → gw_M → Prop} {K : Nat → gw_Kt} {mc ms cc ss : Nat} (hcc : cc ≤ mc) (hss : ss ≤ ms) (hK : gw_cl l x (d + 0) mc ms bsX4_merge Q K) {a0 : Nat} (hS0 : gw_sh S 4 a0) {n0 : Nat} : ∀ {n : Nat} {v1 v2 v3 v4} {μ : gw_M} {r μ'}, F_X4_merge_5 n0 a0 n v1 v2 v3 v4 μ = some (r, μ') → Q (some (.int r)) S μ' → K 5 [.ref a0, .int v1, .int v2, .int v3, .int v4] [] S μ cc ss := by
  have ka0_0 : gw_kd S a0 = 4 := (hS0 0 _ rfl).1
  have ra0_0_0 : gw_rf S a0 0 = a0 + 1 := (hS0 0 _ rfl).2.2 (0, 1) (by decide)
  have ka0_1 : gw_kd S (a0 + 1) = 8 := (hS0 1 _ rfl).1
  have ra0_1_0 : gw_rf S (a0 + 1) 0 = a0 + 2 := (hS0 1 _ rfl).2.2 (0, 2) (by decide)
  have ka0_2 : gw_kd S (a0 + 2) = 12 := (hS0 2 _ rfl).1
  have la0_2 : gw_ln S (a0 + 2) = 16 := (hS0 2 _ rfl).2.1
  intro n
  induction n with
  | zero => intro v1 v2 v3 v4 μ r μ' h hq; simp [F_X4_merge_5] at h
  | succ n ih =>
    intro v1 v2 v3 v4 μ r μ' h hq
    simp only [F_X4_merge_5] at h
    refine hK _ _ _ _ _ _ _ ?_
    rw [fdX4_merge_5]
    simp only [gt_nil, true_and, eq_self, gt_iload, gt_ink, gw_nth, gt_bipush, gt_icmp, gt_aload_n, gt_rfk, gt_get_r, gt_get_i, gt_get_z, gt_iaload, gt_iload_n, gt_iastore, bkX4_merge_5, ka0_0, ra0_0_0, ka0_1, ra0_1_0, ka0_2, la0_2]
    refine ⟨fun c_1 => ?_, fun c_1 => ?_⟩
    · replace h := gw_ifp2 (gw_c2_ge _ _) h c_1
      refine hK _ _ _ _ _ _ _ ?_
      rw [fdX4_merge_64]
      simp only [gt_nil, true_and, eq_self, gt_aload_n, gt_rfk, gw_nth, gt_dup_i, gt_dup_r, gt_get_r, gt_get_i, gt_get_z, gt_iload_n, gt_ink, gt_ior, gt_put_i, gt_putz, gt_iret, gt_retz, bkX4_merge_64, ka0_0, ra0_0_0, ka0_1, ra0_1_0, ka0_2, la0_2]
      obtain ⟨μ_2, hμ_2, h⟩ := gw_lt h
      try rw [← hμ_2]
      obtain ⟨rfl, rfl⟩ := gw_inj2 h
      exact ⟨hcc, hss, hq⟩
    · replace h := gw_ifn2 (gw_c2_ge _ _) h c_1
      obtain ⟨c_3, h⟩ := gw_ife h
      refine ⟨c_3, ?_⟩
      refine ⟨fun c_4 => ?_, fun c_4 => ?_⟩
      · replace h := gw_ifp2 (gw_c2_ne _ _) h c_4
        exact B_X4_merge_37 hcc hss hK hS0 ih h hq
      · replace h := gw_ifn2 (gw_c2_ne _ _) h c_4
        obtain ⟨c_5, h⟩ := gw_ife h
        refine ⟨c_5, ?_⟩
        obtain ⟨μ_6, hμ_6, h⟩ := gw_lt h
        try rw [← hμ_6]
        exact B_X4_merge_37 hcc hss hK hS0 ih h hq
theorem ok_X4_merge {l : Launch} {x : gw_C} {d : Nat} {S : gw_S} {Q : Option Value → gw_S → gw_M → Prop} {v1 v2 : Int32} {a0 : Nat} {n0 : Nat} {μ : gw_M} {r μ'} (hS0 : gw_sh S 4 a0) (h : F_X4_merge n0 a0 v1 v2 μ = some (r, μ')) (hq : Q (some (.int r)) S μ') : gw_ok l x (d + 1) sgX4_merge 0 0 [.ref a0, .int v1, .int v2] S μ Q := by
  refine gw_ok_of stX4_merge (lv0 := [.ref a0, .int v1, .int v2, .retAddr 0, .retAddr 0]) (Nat.le_of_ble_eq_true rfl) rfl rfl ?_
  intro K hK
  have hcc : 0 ≤ 0 := Nat.zero_le _
  have hss : 0 ≤ 0 := Nat.zero_le _
  unfold F_X4_merge at h
  refine hK _ _ _ _ _ _ _ ?_
  rw [fdX4_merge_0]
  simp only [gt_nil, true_and, eq_self, gt_iconst, gt_istore_n, gw_set, gt_istore, bkX4_merge_0]
  exact B_X4_merge_5 hcc hss hK hS0 h hq
def F_X3_joinFrames_48 (rec4 : Int32 → Int32 → gw_M → Option (Int32 × gw_M)) (rec14 : Int32 → Int32 → Int32 → gw_M → Option (Int32 × gw_M)) (n0 : Nat) (a0 : Nat) (v1 : Int32) (v2 : Int32) (v3 : Int32) (μ : gw_M) : Option (Int32 × gw_M) := gw_let (v3 + 1) (fun (w_1 : Int32) => rec14 v1 v2 w_1 μ)
def F_X3_joinFrames_14 (rec4 : Int32 → Int32 → gw_M → Option (Int32 × gw_M)) (n0 : Nat) (a0 : Nat) : Nat → Int32 → Int32 → Int32 → gw_M → Option (Int32 × gw_M)
  | 0, _, _, _, _ => none
  | n + 1, v1, v2, v3, μ => (if 10 ≤ v3 then gw_let (v2 + 1) (fun (w_2 : Int32) => rec4 v1 w_2 μ) else (F_X4_areLike n0 (a0 + 1) v2 v3 μ).bind (fun (r_3 : Int32) => (if r_3 = 0 then F_X3_joinFrames_48 rec4 (F_X3_joinFrames_14 rec4 n0 a0 n) n0 a0 v1 v2 v3 μ else (gw_bi (F_X4_merge n0 (a0 + 1) v2 v3 μ) (fun (r_8 : Int32) (μ_9 : gw_M) => (F_X3_unfold n0 a0 r_8 μ_9).bind (fun (μ_13 : gw_M) => gw_let (v1 + 1) (fun (w_16 : Int32) => F_X3_joinFrames_48 rec4 (F_X3_joinFrames_14 rec4 n0 a0 n) n0 a0 w_16 v2 v3 μ_13)))))))
def F_X3_joinFrames_4 (n0 : Nat) (a0 : Nat) : Nat → Int32 → Int32 → gw_M → Option (Int32 × gw_M)
  | 0, _, _, _ => none
  | n + 1, v1, v2, μ => (if 10 ≤ v2 then some (v1, μ) else gw_let ((v2 + (1 : Int32))) (fun (w_2 : Int32) => F_X3_joinFrames_14 (F_X3_joinFrames_4 n0 a0 n) n0 a0 n0 v1 v2 w_2 μ))
def F_X3_joinFrames (n0 : Nat) (a0 : Nat) (μ : gw_M) : Option (Int32 × gw_M) := F_X3_joinFrames_4 n0 a0 n0 0 0 μ
theorem B_X3_joinFrames_48 {l : Launch} {x : gw_C} {d : Nat} {S : gw_S} {Q : Option Value → gw_S → gw_M → Prop} {K : Nat → gw_Kt} {mc ms cc ss : Nat} (hcc : cc ≤ mc) (hss : ss ≤ ms) (hK : gw_cl l x (d + 2) mc ms bsX3_joinFrames Q K) {a0 : Nat} (hS0 : gw_sh S 3 a0) {rec4 : Int32 → Int32 → gw_M → Option (Int32 × gw_M)} (hrec4 : ∀ {v1 v2} {u3 : Value} {μ : gw_M} {r μ'}, rec4 v1 v2 μ = some (r, μ') → Q (some (.int r)) S μ' → K 4 [.ref a0, .int v1, .int v2, u3] [] S μ cc ss) {rec14 : Int32 → Int32 → Int32 → gw_M → Option (Int32 × gw_M)} (hrec14 : ∀ {v1 v2 v3} {μ : gw_M} {r μ'}, rec14 v1 v2 v3 μ = some (r, μ') → Q (some (.int r)) S μ' → K 14 [.ref a0, .int v1, .int v2, .int v3] [] S μ cc ss) {n0 : Nat} {v1 v2 v3} {μ : gw_M} {r μ'} (h : F_X3_joinFrames_48 rec4 rec14 n0 a0 v1 v2 v3 μ = some (r, μ')) (hq : Q (some (.int r)) S μ') : K 48 [.ref a0, .int v1, .int v2, .int v3] [] S μ cc ss := by
  unfold F_X3_joinFrames_48 at h
  refine hK _ _ _ _ _ _ _ ?_
  rw [fdX3_joinFrames_48]
  simp only [gt_nil, true_and, eq_self, gt_iinc, gt_ink, gw_nth, gw_set, gt_goto, bkX3_joinFrames_48]
  obtain ⟨w_1, hw_1, h⟩ := gw_lt h
  try rw [← hw_1]
  exact hrec14 h hq
theorem B_X3_joinFrames_14 {l : Launch} {x : gw_C} {d : Nat} {S : gw_S} {Q : Option Value → gw_S → gw_M → Prop} {K : Nat → gw_Kt} {mc ms cc ss : Nat} (hcc : cc ≤ mc) (hss : ss ≤ ms) (hK : gw_cl l x (d + 2) mc ms bsX3_joinFrames Q K) {a0 : Nat} (hS0 : gw_sh S 3 a0) {rec4 : Int32 → Int32 → gw_M → Option (Int32 × gw_M)} (hrec4 : ∀ {v1 v2} {u3 : Value} {μ : gw_M} {r μ'}, rec4 v1 v2 μ = some (r, μ') → Q (some (.int r)) S μ' → K 4 [.ref a0, .int v1, .int v2, u3] [] S μ cc ss) {n0 : Nat} : ∀ {n : Nat} {v1 v2 v3} {μ : gw_M} {r μ'}, F_X3_joinFrames_14 rec4 n0 a0 n v1 v2 v3 μ = some (r, μ') → Q (some (.int r)) S μ' → K 14 [.ref a0, .int v1, .int v2, .int v3] [] S μ cc ss := by
  have ka0_0 : gw_kd S a0 = 3 := (hS0 0 _ rfl).1
  have ra0_0_0 : gw_rf S a0 0 = a0 + 1 := (hS0 0 _ rfl).2.2 (0, 1) (by decide)
  have ka0_1 : gw_kd S (a0 + 1) = 4 := (hS0 1 _ rfl).1
  intro n
  induction n with
  | zero => intro v1 v2 v3 μ r μ' h hq; simp [F_X3_joinFrames_14] at h
  | succ n ih =>
    intro v1 v2 v3 μ r μ' h hq
    simp only [F_X3_joinFrames_14] at h
    refine hK _ _ _ _ _ _ _ ?_
    rw [fdX3_joinFrames_14]
    simp only [gt_nil, true_and, eq_self, gt_iload_n, gt_ink, gw_nth, gt_bipush, gt_icmp, gt_aload_n, gt_rfk, gt_get_r, gt_get_i, gt_get_z, gt_v0, gt_v1, gt_v2, gt_v3, gt_v4, gt_v5, gt_if, gt_iinc, gw_set, bkX3_joinFrames_14, ka0_0, ra0_0_0, ka0_1]
    refine ⟨fun c_1 => ?_, fun c_1 => ?_⟩
    · replace h := gw_ifp2 (gw_c2_ge _ _) h c_1
      refine hK _ _ _ _ _ _ _ ?_
      rw [fdX3_joinFrames_54]
      simp only [gt_nil, true_and, eq_self, gt_iinc, gt_ink, gw_nth, gw_set, gt_goto, bkX3_joinFrames_54, ka0_0, ra0_0_0, ka0_1]
      obtain ⟨w_2, hw_2, h⟩ := gw_lt h
      try rw [← hw_2]
      exact hrec4 h hq
    · replace h := gw_ifn2 (gw_c2_ge _ _) h c_1
      obtain ⟨r_3, e_5, h⟩ := gw_bnd h
      refine ⟨rfl, 0, 0, hcc, hss, ok_X4_areLike (gw_sub hS0 4 1 (by decide +kernel)) e_5 ?_⟩
      intro hbr_3
      simp only [gt_nil, true_and, eq_self, gt_if, gt_aload_n, gt_rfk, gw_nth, gt_get_r, gt_get_i, gt_get_z, gt_iload_n, gt_ink, gt_v0, gt_v1, gt_v2, gt_v3, gt_v4, gt_v5, gt_iinc, gw_set, Option.toList, List.cons_append, List.nil_append, Nat.add_zero, ka0_0, ra0_0_0, ka0_1]
      refine ⟨fun c_7 => ?_, fun c_7 => ?_⟩
      · replace h := gw_ifp h c_7
        exact B_X3_joinFrames_48 hcc hss hK hS0 hrec4 ih h hq
      · replace h := gw_ifn h c_7
        obtain ⟨r_8, μ_9, e_10, h⟩ := gw_bnd2 h
        refine ⟨rfl, 0, 0, hcc, hss, ok_X4_merge (gw_sub hS0 4 1 (by decide +kernel)) e_10 ?_⟩
        simp only [gt_nil, true_and, eq_self, gt_v0, gt_v1, gt_v2, gt_v3, gt_v4, gt_v5, gt_iinc, gt_ink, gw_nth, gw_set, Option.toList, List.cons_append, List.nil_append, Nat.add_zero, ka0_0, ra0_0_0, ka0_1]
        obtain ⟨μ_13, e_14, h⟩ := gw_bnd h
        refine ⟨rfl, 0, 0, hcc, hss, ok_X3_unfold hS0 e_14 ?_⟩
        simp only [gt_nil, true_and, eq_self, gt_iinc, gt_ink, gw_nth, gw_set, Option.toList, List.cons_append, List.nil_append, Nat.add_zero, ka0_0, ra0_0_0, ka0_1]
        obtain ⟨w_16, hw_16, h⟩ := gw_lt h
        try rw [← hw_16]
        exact B_X3_joinFrames_48 hcc hss hK hS0 hrec4 ih h hq
theorem B_X3_joinFrames_4 {l : Launch} {x : gw_C} {d : Nat} {S : gw_S} {Q : Option Value → gw_S → gw_M → Prop} {K : Nat → gw_Kt} {mc ms cc ss : Nat} (hcc : cc ≤ mc) (hss : ss ≤ ms) (hK : gw_cl l x (d + 2) mc ms bsX3_joinFrames Q K) {a0 : Nat} (hS0 : gw_sh S 3 a0) {n0 : Nat} : ∀ {n : Nat} {v1 v2} {u3 : Value} {μ : gw_M} {r μ'}, F_X3_joinFrames_4 n0 a0 n v1 v2 μ = some (r, μ') → Q (some (.int r)) S μ' → K 4 [.ref a0, .int v1, .int v2, u3] [] S μ cc ss := by
  intro n
  induction n with
  | zero => intro v1 v2 u3 μ r μ' h hq; simp [F_X3_joinFrames_4] at h
  | succ n ih =>
    intro v1 v2 u3 μ r μ' h hq
    simp only [F_X3_joinFrames_4] at h
    refine hK _ _ _ _ _ _ _ ?_
    rw [fdX3_joinFrames_4]
    simp only [gt_nil, true_and, eq_self, gt_iload_n, gt_ink, gw_nth, gt_bipush, gt_icmp, gt_iconst, gt_iadd, gt_istore_n, gw_set, bkX3_joinFrames_4]
    refine ⟨fun c_1 => ?_, fun c_1 => ?_⟩
    · replace h := gw_ifp2 (gw_c2_ge _ _) h c_1
      refine hK _ _ _ _ _ _ _ ?_
      rw [fdX3_joinFrames_60]
      simp only [gt_nil, true_and, eq_self, gt_iload_n, gt_ink, gw_nth, gt_iret, gt_retz, bkX3_joinFrames_60]
      obtain ⟨rfl, rfl⟩ := gw_inj2 h
      exact ⟨hcc, hss, hq⟩
    · replace h := gw_ifn2 (gw_c2_ge _ _) h c_1
      obtain ⟨w_2, hw_2, h⟩ := gw_lt h
      try rw [← hw_2]
      exact B_X3_joinFrames_14 hcc hss hK hS0 ih h hq
theorem ok_X3_joinFrames {l : Launch} {x : gw_C} {d : Nat} {S : gw_S} {Q : Option Value → gw_S → gw_M → Prop} {a0 : Nat} {n0 : Nat} {μ : gw_M} {r μ'} (hS0 : gw_sh S 3 a0) (h : F_X3_joinFrames n0 a0 μ = some (r, μ')) (hq : Q (some (.int r)) S μ') : gw_ok l x (d + 3) sgX3_joinFrames 0 0 [.ref a0] S μ Q := by
  refine gw_ok_of stX3_joinFrames (lv0 := [.ref a0, .retAddr 0, .retAddr 0, .retAddr 0]) (Nat.le_of_ble_eq_true rfl) rfl rfl ?_
  intro K hK
  have hcc : 0 ≤ 0 := Nat.zero_le _
  have hss : 0 ≤ 0 := Nat.zero_le _
  unfold F_X3_joinFrames at h
  refine hK _ _ _ _ _ _ _ ?_
  rw [fdX3_joinFrames_0]
  simp only [gt_nil, true_and, eq_self, gt_iconst, gt_istore_n, gw_set, bkX3_joinFrames_0]
  exact B_X3_joinFrames_4 hcc hss hK hS0 h hq
def F_X3_hostSees (n0 : Nat) (a0 : Nat) (v1 : Int32) (v2 : Int32) (μ : gw_M) : Option (gw_M) := (F_X2_writeExit n0 (a0 + 25) 0 v1 v2 (μ a0 7) μ).bind (fun (μ_2 : gw_M) => some μ_2)
theorem ok_X3_hostSees {l : Launch} {x : gw_C} {d : Nat} {S : gw_S} {Q : Option Value → gw_S → gw_M → Prop} {v1 v2 : Int32} {a0 : Nat} {n0 : Nat} {μ : gw_M} {μ'} (hS0 : gw_sh S 3 a0) (h : F_X3_hostSees n0 a0 v1 v2 μ = some μ') (hq : Q none S μ') : gw_ok l x (d + 2) sgX3_hostSees 0 0 [.ref a0, .int v1, .int v2] S μ Q := by
  refine gw_ok_of stX3_hostSees (lv0 := [.ref a0, .int v1, .int v2]) (Nat.le_of_ble_eq_true rfl) rfl rfl ?_
  intro K hK
  have hcc : 0 ≤ 0 := Nat.zero_le _
  have hss : 0 ≤ 0 := Nat.zero_le _
  have ka0_0 : gw_kd S a0 = 3 := (hS0 0 _ rfl).1
  have ra0_0_14 : gw_rf S a0 14 = a0 + 25 := (hS0 0 _ rfl).2.2 (14, 25) (by decide)
  have ka0_25 : gw_kd S (a0 + 25) = 2 := (hS0 25 _ rfl).1
  unfold F_X3_hostSees at h
  refine hK _ _ _ _ _ _ _ ?_
  rw [fdX3_hostSees_0]
  simp only [gt_nil, true_and, eq_self, gt_aload_n, gt_rfk, gw_nth, gt_get_r, gt_get_i, gt_get_z, gt_iconst, gt_iload_n, gt_ink, gt_v0, gt_v1, gt_v2, gt_v3, gt_v4, gt_v5, gt_vret, bkX3_hostSees_0, ka0_0, ra0_0_14, ka0_25]
  obtain ⟨μ_2, e_3, h⟩ := gw_bnd h
  refine ⟨rfl, 0, 0, hcc, hss, ok_X2_writeExit (gw_sub hS0 2 25 (by decide +kernel)) e_3 ?_⟩
  simp only [gt_nil, true_and, eq_self, gt_vret, Option.toList, List.cons_append, List.nil_append, Nat.add_zero, ka0_0, ra0_0_14, ka0_25]
  obtain rfl := gw_inj1 h
  exact ⟨hcc, hss, hq⟩
def F_X3_dealToOuter (n0 : Nat) (a0 : Nat) (v1 : Int32) (v2 : Int32) (μ : gw_M) : Option (gw_M) := (F_X2_writeExit n0 (a0 + 25) 1 v1 v2 (μ a0 7) μ).bind (fun (μ_2 : gw_M) => gw_let (gw_up μ_2 a0 6 1) (fun (μ_5 : gw_M) => (if 0 ≤ v1 ∧ v1.toNatClampNeg < 10 then (F_X7_goTo n0 (a0 + 13) (μ_5 (a0 + 20) v1.toNatClampNeg) μ_5).bind (fun (μ_8 : gw_M) => some μ_8) else none)))
theorem ok_X3_dealToOuter {l : Launch} {x : gw_C} {d : Nat} {S : gw_S} {Q : Option Value → gw_S → gw_M → Prop} {v1 v2 : Int32} {a0 : Nat} {n0 : Nat} {μ : gw_M} {μ'} (hS0 : gw_sh S 3 a0) (h : F_X3_dealToOuter n0 a0 v1 v2 μ = some μ') (hq : Q none S μ') : gw_ok l x (d + 2) sgX3_dealToOuter 0 0 [.ref a0, .int v1, .int v2] S μ Q := by
  refine gw_ok_of stX3_dealToOuter (lv0 := [.ref a0, .int v1, .int v2]) (Nat.le_of_ble_eq_true rfl) rfl rfl ?_
  intro K hK
  have hcc : 0 ≤ 0 := Nat.zero_le _
  have hss : 0 ≤ 0 := Nat.zero_le _
  have ka0_0 : gw_kd S a0 = 3 := (hS0 0 _ rfl).1
  have ra0_0_14 : gw_rf S a0 14 = a0 + 25 := (hS0 0 _ rfl).2.2 (14, 25) (by decide)
  have ra0_0_3 : gw_rf S a0 3 = a0 + 12 := (hS0 0 _ rfl).2.2 (3, 12) (by decide)
  have ra0_0_9 : gw_rf S a0 9 = a0 + 20 := (hS0 0 _ rfl).2.2 (9, 20) (by decide)
  have ka0_12 : gw_kd S (a0 + 12) = 0 := (hS0 12 _ rfl).1
  have ra0_12_0 : gw_rf S (a0 + 12) 0 = a0 + 13 := (hS0 12 _ rfl).2.2 (0, 13) (by decide)
  have ka0_13 : gw_kd S (a0 + 13) = 7 := (hS0 13 _ rfl).1
  have ka0_20 : gw_kd S (a0 + 20) = 12 := (hS0 20 _ rfl).1
  have la0_20 : gw_ln S (a0 + 20) = 10 := (hS0 20 _ rfl).2.1
  have ka0_25 : gw_kd S (a0 + 25) = 2 := (hS0 25 _ rfl).1
  unfold F_X3_dealToOuter at h
  refine hK _ _ _ _ _ _ _ ?_
  rw [fdX3_dealToOuter_0]
  simp only [gt_nil, true_and, eq_self, gt_aload_n, gt_rfk, gw_nth, gt_get_r, gt_get_i, gt_get_z, gt_iconst, gt_iload_n, gt_ink, gt_v0, gt_v1, gt_v2, gt_v3, gt_v4, gt_v5, gt_put_i, gt_putz, gt_iaload, gt_vret, bkX3_dealToOuter_0, ka0_0, ra0_0_14, ra0_0_3, ra0_0_9, ka0_12, ra0_12_0, ka0_13, ka0_20, la0_20, ka0_25]
  obtain ⟨μ_2, e_3, h⟩ := gw_bnd h
  refine ⟨rfl, 0, 0, hcc, hss, ok_X2_writeExit (gw_sub hS0 2 25 (by decide +kernel)) e_3 ?_⟩
  simp only [gt_nil, true_and, eq_self, gt_aload_n, gt_rfk, gw_nth, gt_iconst, gt_put_i, gt_putz, gt_get_r, gt_get_i, gt_get_z, gt_iload_n, gt_ink, gt_iaload, gt_v0, gt_v1, gt_v2, gt_v3, gt_v4, gt_v5, gt_vret, Option.toList, List.cons_append, List.nil_append, Nat.add_zero, ka0_0, ra0_0_14, ra0_0_3, ra0_0_9, ka0_12, ra0_12_0, ka0_13, ka0_20, la0_20, ka0_25]
  obtain ⟨μ_5, hμ_5, h⟩ := gw_lt h
  try rw [← hμ_5]
  obtain ⟨c_6, h⟩ := gw_ife h
  refine ⟨c_6, ?_⟩
  obtain ⟨μ_8, e_9, h⟩ := gw_bnd h
  refine ⟨rfl, 0, 0, hcc, hss, ok_X7_goTo (gw_sub hS0 7 13 (by decide +kernel)) e_9 ?_⟩
  simp only [gt_nil, true_and, eq_self, gt_vret, Option.toList, List.cons_append, List.nil_append, Nat.add_zero, ka0_0, ra0_0_14, ra0_0_3, ra0_0_9, ka0_12, ra0_12_0, ka0_13, ka0_20, la0_20, ka0_25]
  obtain rfl := gw_inj1 h
  exact ⟨hcc, hss, hq⟩
def F_X3_seerOfInner (n0 : Nat) (a0 : Nat) (v1 : Int32) (μ : gw_M) : Option (Int32) := (F_X10_hasBit n0 (μ (a0 + 19) 1) v1 μ).bind (fun (r_1 : Int32) => (if r_1 = 0 then (F_X10_hasBit n0 (μ (a0 + 19) 0) v1 μ).bind (fun (r_6 : Int32) => (if r_6 = 0 then some 2 else some 0)) else some 1))
theorem ok_X3_seerOfInner {l : Launch} {x : gw_C} {d : Nat} {S : gw_S} {Q : Option Value → gw_S → gw_M → Prop} {v1 : Int32} {a0 : Nat} {n0 : Nat} {μ : gw_M} {r} (hS0 : gw_sh S 3 a0) (h : F_X3_seerOfInner n0 a0 v1 μ = some r) (hq : Q (some (.int r)) S μ) : gw_ok l x (d + 2) sgX3_seerOfInner 0 0 [.ref a0, .int v1] S μ Q := by
  refine gw_ok_of stX3_seerOfInner (lv0 := [.ref a0, .int v1]) (Nat.le_of_ble_eq_true rfl) rfl rfl ?_
  intro K hK
  have hcc : 0 ≤ 0 := Nat.zero_le _
  have hss : 0 ≤ 0 := Nat.zero_le _
  have ka0_0 : gw_kd S a0 = 3 := (hS0 0 _ rfl).1
  have ra0_0_8 : gw_rf S a0 8 = a0 + 19 := (hS0 0 _ rfl).2.2 (8, 19) (by decide)
  have ka0_19 : gw_kd S (a0 + 19) = 12 := (hS0 19 _ rfl).1
  have la0_19 : gw_ln S (a0 + 19) = 2 := (hS0 19 _ rfl).2.1
  unfold F_X3_seerOfInner at h
  refine hK _ _ _ _ _ _ _ ?_
  rw [fdX3_seerOfInner_0]
  simp only [gt_nil, true_and, eq_self, gt_aload_n, gt_rfk, gw_nth, gt_get_r, gt_get_i, gt_get_z, gt_iconst, gt_iaload, gt_iload_n, gt_ink, gt_s1_0, gt_s2_0, gt_s3_0, gt_s4_0, gt_s1_1, gt_s2_1, gt_s3_1, gt_s4_1, gt_acpy, gt_if, gt_iret, gt_retz, bkX3_seerOfInner_0, ka0_0, ra0_0_8, ka0_19, la0_19, (show Int32.toNatClampNeg 0 = 0 from rfl), (show Int32.toNatClampNeg 1 = 1 from rfl)]
  refine ⟨(⟨by decide, by decide⟩ : gw_in 1 2), ?_⟩
  obtain ⟨r_1, e_3, h⟩ := gw_bnd h
  refine ⟨rfl, 0, 0, hcc, hss, ok_X10_hasBit e_3 ?_⟩
  intro hbr_1
  simp only [gt_nil, true_and, eq_self, gt_if, gt_iconst, gt_iret, gt_retz, Option.toList, List.cons_append, List.nil_append, Nat.add_zero, ka0_0, ra0_0_8, ka0_19, la0_19, (show Int32.toNatClampNeg 0 = 0 from rfl), (show Int32.toNatClampNeg 1 = 1 from rfl)]
  refine ⟨fun c_5 => ?_, fun c_5 => ?_⟩
  · replace h := gw_ifp h c_5
    refine hK _ _ _ _ _ _ _ ?_
    rw [fdX3_seerOfInner_15]
    simp only [gt_nil, true_and, eq_self, gt_aload_n, gt_rfk, gw_nth, gt_get_r, gt_get_i, gt_get_z, gt_iconst, gt_iaload, gt_iload_n, gt_ink, gt_s1_0, gt_s2_0, gt_s3_0, gt_s4_0, gt_s1_1, gt_s2_1, gt_s3_1, gt_s4_1, gt_acpy, gt_if, gt_goto, bkX3_seerOfInner_15, ka0_0, ra0_0_8, ka0_19, la0_19, (show Int32.toNatClampNeg 0 = 0 from rfl), (show Int32.toNatClampNeg 1 = 1 from rfl)]
    refine ⟨(⟨by decide, by decide⟩ : gw_in 0 2), ?_⟩
    obtain ⟨r_6, e_8, h⟩ := gw_bnd h
    refine ⟨rfl, 0, 0, hcc, hss, ok_X10_hasBit e_8 ?_⟩
    intro hbr_6
    simp only [gt_nil, true_and, eq_self, gt_if, gt_iconst, gt_goto, Option.toList, List.cons_append, List.nil_append, Nat.add_zero, ka0_0, ra0_0_8, ka0_19, la0_19, (show Int32.toNatClampNeg 0 = 0 from rfl), (show Int32.toNatClampNeg 1 = 1 from rfl)]
    refine ⟨fun c_10 => ?_, fun c_10 => ?_⟩
    · replace h := gw_ifp h c_10
      refine hK _ _ _ _ _ _ _ ?_
      rw [fdX3_seerOfInner_32]
      simp only [gt_nil, true_and, eq_self, gt_iconst, bkX3_seerOfInner_32, ka0_0, ra0_0_8, ka0_19, la0_19, (show Int32.toNatClampNeg 0 = 0 from rfl), (show Int32.toNatClampNeg 1 = 1 from rfl)]
      refine hK _ _ _ _ _ _ _ ?_
      rw [fdX3_seerOfInner_33]
      simp only [gt_nil, true_and, eq_self, gt_iret, gt_retz, bkX3_seerOfInner_33, ka0_0, ra0_0_8, ka0_19, la0_19, (show Int32.toNatClampNeg 0 = 0 from rfl), (show Int32.toNatClampNeg 1 = 1 from rfl)]
      obtain rfl := gw_inj1 h
      exact ⟨hcc, hss, hq⟩
    · replace h := gw_ifn h c_10
      refine hK _ _ _ _ _ _ _ ?_
      rw [fdX3_seerOfInner_33]
      simp only [gt_nil, true_and, eq_self, gt_iret, gt_retz, bkX3_seerOfInner_33, ka0_0, ra0_0_8, ka0_19, la0_19, (show Int32.toNatClampNeg 0 = 0 from rfl), (show Int32.toNatClampNeg 1 = 1 from rfl)]
      obtain rfl := gw_inj1 h
      exact ⟨hcc, hss, hq⟩
  · replace h := gw_ifn h c_5
    obtain rfl := gw_inj1 h
    exact ⟨hcc, hss, hq⟩
def F_X3_eventOfInner (n0 : Nat) (a0 : Nat) (v1 : Int32) (μ : gw_M) : Option (Int32 × gw_M) := (F_X3_seerOfInner n0 a0 v1 μ).bind (fun (r_1 : Int32) => (if 0 ≤ (((3 : Int32) * v1) + r_1) ∧ (((3 : Int32) * v1) + r_1).toNatClampNeg < 24 then (if 0 ≤ (((3 : Int32) * v1) + r_1) ∧ (((3 : Int32) * v1) + r_1).toNatClampNeg < 24 then gw_let (gw_up μ (a0 + 32) (((3 : Int32) * v1) + r_1).toNatClampNeg ((μ (a0 + 32) (((3 : Int32) * v1) + r_1).toNatClampNeg) + (1 : Int32))) (fun (μ_7 : gw_M) => (if ¬ r_1 = 1 then (if ¬ r_1 = 0 then some (r_1, μ_7) else (F_X3_hostSees n0 a0 4 v1 μ_7).bind (fun (μ_11 : gw_M) => some (r_1, μ_11))) else (F_X3_dealToOuter n0 a0 4 v1 μ_7).bind (fun (μ_15 : gw_M) => some (r_1, μ_15)))) else none) else none))
theorem ok_X3_eventOfInner {l : Launch} {x : gw_C} {d : Nat} {S : gw_S} {Q : Option Value → gw_S → gw_M → Prop} {v1 : Int32} {a0 : Nat} {n0 : Nat} {μ : gw_M} {r μ'} (hS0 : gw_sh S 3 a0) (h : F_X3_eventOfInner n0 a0 v1 μ = some (r, μ')) (hq : Q (some (.int r)) S μ') : gw_ok l x (d + 3) sgX3_eventOfInner 0 0 [.ref a0, .int v1] S μ Q := by
  refine gw_ok_of stX3_eventOfInner (lv0 := [.ref a0, .int v1, .retAddr 0]) (Nat.le_of_ble_eq_true rfl) rfl rfl ?_
  intro K hK
  have hcc : 0 ≤ 0 := Nat.zero_le _
  have hss : 0 ≤ 0 := Nat.zero_le _
  have ka0_0 : gw_kd S a0 = 3 := (hS0 0 _ rfl).1
  have ra0_0_14 : gw_rf S a0 14 = a0 + 25 := (hS0 0 _ rfl).2.2 (14, 25) (by decide)
  have ka0_25 : gw_kd S (a0 + 25) = 2 := (hS0 25 _ rfl).1
  have ra0_25_10 : gw_rf S (a0 + 25) 10 = a0 + 32 := (hS0 25 _ rfl).2.2 (10, 32) (by decide)
  have ka0_32 : gw_kd S (a0 + 32) = 12 := (hS0 32 _ rfl).1
  have la0_32 : gw_ln S (a0 + 32) = 24 := (hS0 32 _ rfl).2.1
  unfold F_X3_eventOfInner at h
  refine hK _ _ _ _ _ _ _ ?_
  rw [fdX3_eventOfInner_0]
  simp only [gt_nil, true_and, eq_self, gt_aload_n, gt_rfk, gw_nth, gt_iload_n, gt_ink, gt_v0, gt_v1, gt_v2, gt_v3, gt_v4, gt_v5, gt_istore_n, gw_set, gt_get_r, gt_get_i, gt_get_z, gt_iconst, gt_imul, gt_iadd, gt_dup2, gt_iaload, gt_iastore, gt_icmp, gt_goto, bkX3_eventOfInner_0, ka0_0, ra0_0_14, ka0_25, ra0_25_10, ka0_32, la0_32]
  obtain ⟨r_1, e_3, h⟩ := gw_bnd h
  refine ⟨rfl, 0, 0, hcc, hss, ok_X3_seerOfInner hS0 e_3 ?_⟩
  simp only [gt_nil, true_and, eq_self, gt_istore_n, gw_set, gt_aload_n, gt_rfk, gw_nth, gt_get_r, gt_get_i, gt_get_z, gt_iconst, gt_iload_n, gt_ink, gt_imul, gt_iadd, gt_dup2, gt_iaload, gt_iastore, gt_icmp, gt_v0, gt_v1, gt_v2, gt_v3, gt_v4, gt_v5, gt_goto, Option.toList, List.cons_append, List.nil_append, Nat.add_zero, ka0_0, ra0_0_14, ka0_25, ra0_25_10, ka0_32, la0_32]
  obtain ⟨c_5, h⟩ := gw_ife h
  refine ⟨c_5, ?_⟩
  obtain ⟨c_6, h⟩ := gw_ife h
  refine ⟨c_6, ?_⟩
  obtain ⟨μ_7, hμ_7, h⟩ := gw_lt h
  try rw [← hμ_7]
  refine ⟨fun c_8 => ?_, fun c_8 => ?_⟩
  · replace h := gw_ifp2 (gw_c2_ne _ _) h c_8
    refine hK _ _ _ _ _ _ _ ?_
    rw [fdX3_eventOfInner_37]
    simp only [gt_nil, true_and, eq_self, gt_iload_n, gt_ink, gw_nth, gt_if, gt_aload_n, gt_rfk, gt_iconst, gt_v0, gt_v1, gt_v2, gt_v3, gt_v4, gt_v5, bkX3_eventOfInner_37, ka0_0, ra0_0_14, ka0_25, ra0_25_10, ka0_32, la0_32]
    refine ⟨fun c_9 => ?_, fun c_9 => ?_⟩
    · replace h := gw_ifp h c_9
      refine hK _ _ _ _ _ _ _ ?_
      rw [fdX3_eventOfInner_47]
      simp only [gt_nil, true_and, eq_self, gt_iload_n, gt_ink, gw_nth, gt_iret, gt_retz, bkX3_eventOfInner_47, ka0_0, ra0_0_14, ka0_25, ra0_25_10, ka0_32, la0_32]
      obtain ⟨rfl, rfl⟩ := gw_inj2 h
      exact ⟨hcc, hss, hq⟩
    · replace h := gw_ifn h c_9
      obtain ⟨μ_11, e_12, h⟩ := gw_bnd h
      refine ⟨rfl, 0, 0, hcc, hss, ok_X3_hostSees hS0 e_12 ?_⟩
      simp only [gt_nil, true_and, eq_self, Option.toList, List.cons_append, List.nil_append, Nat.add_zero, ka0_0, ra0_0_14, ka0_25, ra0_25_10, ka0_32, la0_32]
      refine hK _ _ _ _ _ _ _ ?_
      rw [fdX3_eventOfInner_47]
      simp only [gt_nil, true_and, eq_self, gt_iload_n, gt_ink, gw_nth, gt_iret, gt_retz, bkX3_eventOfInner_47, ka0_0, ra0_0_14, ka0_25, ra0_25_10, ka0_32, la0_32]
      obtain ⟨rfl, rfl⟩ := gw_inj2 h
      exact ⟨hcc, hss, hq⟩
  · replace h := gw_ifn2 (gw_c2_ne _ _) h c_8
    obtain ⟨μ_15, e_16, h⟩ := gw_bnd h
    refine ⟨rfl, 0, 0, hcc, hss, ok_X3_dealToOuter hS0 e_16 ?_⟩
    simp only [gt_nil, true_and, eq_self, gt_goto, Option.toList, List.cons_append, List.nil_append, Nat.add_zero, ka0_0, ra0_0_14, ka0_25, ra0_25_10, ka0_32, la0_32]
    refine hK _ _ _ _ _ _ _ ?_
    rw [fdX3_eventOfInner_47]
    simp only [gt_nil, true_and, eq_self, gt_iload_n, gt_ink, gw_nth, gt_iret, gt_retz, bkX3_eventOfInner_47, ka0_0, ra0_0_14, ka0_25, ra0_25_10, ka0_32, la0_32]
    obtain ⟨rfl, rfl⟩ := gw_inj2 h
    exact ⟨hcc, hss, hq⟩
def F_X10_lowestOutside_2 (n0 : Nat) : Nat → Int32 → Int32 → gw_M → Option (Int32)
  | 0, _, _, _ => none
  | n + 1, v0, v1, μ => (if 10 ≤ v1 then some (-1) else (if ¬ ((v0 >>> (v1 &&& 31)) &&& (1 : Int32)) = 0 then gw_let (v1 + 1) (fun (w_3 : Int32) => F_X10_lowestOutside_2 n0 n v0 w_3 μ) else some v1))
def F_X10_lowestOutside (n0 : Nat) (v0 : Int32) (μ : gw_M) : Option (Int32) := F_X10_lowestOutside_2 n0 n0 v0 0 μ
theorem B_X10_lowestOutside_2 {l : Launch} {x : gw_C} {d : Nat} {S : gw_S} {Q : Option Value → gw_S → gw_M → Prop} {K : Nat → gw_Kt} {mc ms cc ss : Nat} (hcc : cc ≤ mc) (hss : ss ≤ ms) (hK : gw_cl l x (d + 0) mc ms bsX10_lowestOutside Q K) {n0 : Nat} : ∀ {n : Nat} {v0 v1} {μ : gw_M} {r}, F_X10_lowestOutside_2 n0 n v0 v1 μ = some r → Q (some (.int r)) S μ → K 2 [.int v0, .int v1] [] S μ cc ss := by
  intro n
  induction n with
  | zero => intro v0 v1 μ r h hq; simp [F_X10_lowestOutside_2] at h
  | succ n ih =>
    intro v0 v1 μ r h hq
    simp only [F_X10_lowestOutside_2] at h
    refine hK _ _ _ _ _ _ _ ?_
    rw [fdX10_lowestOutside_2]
    simp only [gt_nil, true_and, eq_self, gt_iload_n, gt_ink, gw_nth, gt_bipush, gt_icmp, gt_ishr, gt_iconst, gt_iand, gt_if, gt_iret, gt_retz, bkX10_lowestOutside_2]
    refine ⟨fun c_1 => ?_, fun c_1 => ?_⟩
    · replace h := gw_ifp2 (gw_c2_ge _ _) h c_1
      refine hK _ _ _ _ _ _ _ ?_
      rw [fdX10_lowestOutside_24]
      simp only [gt_nil, true_and, eq_self, gt_iconst, gt_iret, gt_retz, bkX10_lowestOutside_24]
      obtain rfl := gw_inj1 h
      exact ⟨hcc, hss, hq⟩
    · replace h := gw_ifn2 (gw_c2_ge _ _) h c_1
      refine ⟨fun c_2 => ?_, fun c_2 => ?_⟩
      · replace h := gw_ifp h c_2
        refine hK _ _ _ _ _ _ _ ?_
        rw [fdX10_lowestOutside_18]
        simp only [gt_nil, true_and, eq_self, gt_iinc, gt_ink, gw_nth, gw_set, gt_goto, bkX10_lowestOutside_18]
        obtain ⟨w_3, hw_3, h⟩ := gw_lt h
        try rw [← hw_3]
        exact ih h hq
      · replace h := gw_ifn h c_2
        obtain rfl := gw_inj1 h
        exact ⟨hcc, hss, hq⟩
theorem ok_X10_lowestOutside {l : Launch} {x : gw_C} {d : Nat} {S : gw_S} {Q : Option Value → gw_S → gw_M → Prop} {v0 : Int32} {n0 : Nat} {μ : gw_M} {r} (h : F_X10_lowestOutside n0 v0 μ = some r) (hq : Q (some (.int r)) S μ) : gw_ok l x (d + 1) sgX10_lowestOutside 0 0 [.int v0] S μ Q := by
  refine gw_ok_of stX10_lowestOutside (lv0 := [.int v0, .retAddr 0]) (Nat.le_of_ble_eq_true rfl) rfl rfl ?_
  intro K hK
  have hcc : 0 ≤ 0 := Nat.zero_le _
  have hss : 0 ≤ 0 := Nat.zero_le _
  unfold F_X10_lowestOutside at h
  refine hK _ _ _ _ _ _ _ ?_
  rw [fdX10_lowestOutside_0]
  simp only [gt_nil, true_and, eq_self, gt_iconst, gt_istore_n, gw_set, bkX10_lowestOutside_0]
  exact B_X10_lowestOutside_2 hcc hss hK h hq
def F_X4_storeAway (n0 : Nat) (a0 : Nat) (v1 : Int32) (μ : gw_M) : Option (gw_M) := (if 0 ≤ v1 ∧ v1.toNatClampNeg < 16 then gw_let ((μ (a0 + 2) v1.toNatClampNeg)) (fun (w_2 : Int32) => (if ¬ w_2 = (-1) then (if 0 ≤ w_2 ∧ w_2.toNatClampNeg < 10 then (if 0 ≤ v1 ∧ v1.toNatClampNeg < 16 then gw_let (gw_up μ (a0 + 6) v1.toNatClampNeg (μ (a0 + 5) w_2.toNatClampNeg)) (fun (μ_6 : gw_M) => (if 0 ≤ v1 ∧ v1.toNatClampNeg < 16 then gw_let (gw_up μ_6 (a0 + 2) v1.toNatClampNeg (-1)) (fun (μ_8 : gw_M) => (if 0 ≤ v1 ∧ v1.toNatClampNeg < 16 then gw_let (gw_up μ_8 (a0 + 3) v1.toNatClampNeg 0) (fun (μ_10 : gw_M) => gw_let (gw_up μ_10 a0 3 ((μ_10 a0 3) &&& (((1 : Int32) <<< (v1 &&& 31)) ^^^ ((-1) : Int32)))) (fun (μ_11 : gw_M) => some μ_11)) else none)) else none)) else none) else none) else some μ)) else none)
theorem ok_X4_storeAway {l : Launch} {x : gw_C} {d : Nat} {S : gw_S} {Q : Option Value → gw_S → gw_M → Prop} {v1 : Int32} {a0 : Nat} {n0 : Nat} {μ : gw_M} {μ'} (hS0 : gw_sh S 4 a0) (h : F_X4_storeAway n0 a0 v1 μ = some μ') (hq : Q none S μ') : gw_ok l x (d + 1) sgX4_storeAway 0 0 [.ref a0, .int v1] S μ Q := by
  refine gw_ok_of stX4_storeAway (lv0 := [.ref a0, .int v1, .retAddr 0]) (Nat.le_of_ble_eq_true rfl) rfl rfl ?_
  intro K hK
  have hcc : 0 ≤ 0 := Nat.zero_le _
  have hss : 0 ≤ 0 := Nat.zero_le _
  have ka0_0 : gw_kd S a0 = 4 := (hS0 0 _ rfl).1
  have ra0_0_0 : gw_rf S a0 0 = a0 + 1 := (hS0 0 _ rfl).2.2 (0, 1) (by decide)
  have ra0_0_1 : gw_rf S a0 1 = a0 + 5 := (hS0 0 _ rfl).2.2 (1, 5) (by decide)
  have ra0_0_2 : gw_rf S a0 2 = a0 + 6 := (hS0 0 _ rfl).2.2 (2, 6) (by decide)
  have ka0_1 : gw_kd S (a0 + 1) = 8 := (hS0 1 _ rfl).1
  have ra0_1_0 : gw_rf S (a0 + 1) 0 = a0 + 2 := (hS0 1 _ rfl).2.2 (0, 2) (by decide)
  have ra0_1_1 : gw_rf S (a0 + 1) 1 = a0 + 3 := (hS0 1 _ rfl).2.2 (1, 3) (by decide)
  have ka0_2 : gw_kd S (a0 + 2) = 12 := (hS0 2 _ rfl).1
  have la0_2 : gw_ln S (a0 + 2) = 16 := (hS0 2 _ rfl).2.1
  have ka0_3 : gw_kd S (a0 + 3) = 12 := (hS0 3 _ rfl).1
  have la0_3 : gw_ln S (a0 + 3) = 16 := (hS0 3 _ rfl).2.1
  have ka0_5 : gw_kd S (a0 + 5) = 12 := (hS0 5 _ rfl).1
  have la0_5 : gw_ln S (a0 + 5) = 10 := (hS0 5 _ rfl).2.1
  have ka0_6 : gw_kd S (a0 + 6) = 12 := (hS0 6 _ rfl).1
  have la0_6 : gw_ln S (a0 + 6) = 16 := (hS0 6 _ rfl).2.1
  unfold F_X4_storeAway at h
  refine hK _ _ _ _ _ _ _ ?_
  rw [fdX4_storeAway_0]
  simp only [gt_nil, true_and, eq_self, gt_aload_n, gt_rfk, gw_nth, gt_get_r, gt_get_i, gt_get_z, gt_iload_n, gt_ink, gt_iaload, gt_istore_n, gw_set, gt_iconst, gt_icmp, gt_vret, bkX4_storeAway_0, ka0_0, ra0_0_0, ra0_0_1, ra0_0_2, ka0_1, ra0_1_0, ra0_1_1, ka0_2, la0_2, ka0_3, la0_3, ka0_5, la0_5, ka0_6, la0_6]
  obtain ⟨c_1, h⟩ := gw_ife h
  refine ⟨c_1, ?_⟩
  obtain ⟨w_2, hw_2, h⟩ := gw_lt h
  try rw [← hw_2]
  refine ⟨fun c_3 => ?_, fun c_3 => ?_⟩
  · replace h := gw_ifp2 (gw_c2_ne _ _) h c_3
    refine hK _ _ _ _ _ _ _ ?_
    rw [fdX4_storeAway_16]
    simp only [gt_nil, true_and, eq_self, gt_aload_n, gt_rfk, gw_nth, gt_get_r, gt_get_i, gt_get_z, gt_iload_n, gt_ink, gt_iaload, gt_iastore, gt_iconst, gt_dup_i, gt_dup_r, gt_ishl, gt_ixor, gt_iand, gt_put_i, gt_putz, gt_vret, bkX4_storeAway_16, ka0_0, ra0_0_0, ra0_0_1, ra0_0_2, ka0_1, ra0_1_0, ra0_1_1, ka0_2, la0_2, ka0_3, la0_3, ka0_5, la0_5, ka0_6, la0_6]
    obtain ⟨c_4, h⟩ := gw_ife h
    refine ⟨c_4, ?_⟩
    obtain ⟨c_5, h⟩ := gw_ife h
    refine ⟨c_5, ?_⟩
    obtain ⟨μ_6, hμ_6, h⟩ := gw_lt h
    try rw [← hμ_6]
    obtain ⟨c_7, h⟩ := gw_ife h
    refine ⟨c_7, ?_⟩
    obtain ⟨μ_8, hμ_8, h⟩ := gw_lt h
    try rw [← hμ_8]
    obtain ⟨c_9, h⟩ := gw_ife h
    refine ⟨c_9, ?_⟩
    obtain ⟨μ_10, hμ_10, h⟩ := gw_lt h
    try rw [← hμ_10]
    obtain ⟨μ_11, hμ_11, h⟩ := gw_lt h
    try rw [← hμ_11]
    obtain rfl := gw_inj1 h
    exact ⟨hcc, hss, hq⟩
  · replace h := gw_ifn2 (gw_c2_ne _ _) h c_3
    obtain rfl := gw_inj1 h
    exact ⟨hcc, hss, hq⟩
def F_X4_give_82 (n0 : Nat) (a0 : Nat) (v1 : Int32) (v2 : Int32) (v3 : Int32) (μ : gw_M) : Option (Int32 × gw_M) := (if ¬ v3 = (-1) then (F_X8_put n0 (a0 + 1) v1 v3 7 μ).bind (fun (μ_3 : gw_M) => gw_let (gw_up μ_3 a0 3 ((μ_3 a0 3) &&& (((1 : Int32) <<< (v1 &&& 31)) ^^^ ((-1) : Int32)))) (fun (μ_6 : gw_M) => (if 0 ≤ v1 ∧ v1.toNatClampNeg < 16 then (F_J9_max_7cf53 n0 (μ_6 (a0 + 6) v1.toNatClampNeg) 0 μ_6).bind (fun (r_8 : Int32) => (if 0 ≤ v3 ∧ v3.toNatClampNeg < 10 then gw_let (gw_up μ_6 (a0 + 5) v3.toNatClampNeg r_8) (fun (μ_13 : gw_M) => (if 0 ≤ v1 ∧ v1.toNatClampNeg < 16 then gw_let (gw_up μ_13 (a0 + 6) v1.toNatClampNeg (-1)) (fun (μ_15 : gw_M) => gw_let (gw_up μ_15 a0 4 ((μ_15 a0 4) ||| ((1 : Int32) <<< (v3 &&& 31)))) (fun (μ_16 : gw_M) => some (v2, μ_16))) else none)) else none)) else none))) else some (v2, μ))
def F_X4_give_15 (n0 : Nat) (a0 : Nat) : Nat → Int32 → Int32 → Int32 → Int32 → gw_M → Option (Int32 × gw_M)
  | 0, _, _, _, _, _ => none
  | n + 1, v1, v2, v3, v4, μ => (if 16 ≤ v4 then F_X4_give_82 n0 a0 v1 v2 v3 μ else (if ¬ v3 = (-1) then F_X4_give_82 n0 a0 v1 v2 v3 μ else (F_X8_eldest n0 (a0 + 1) μ).bind (fun (r_3 : Int32) => (if ¬ r_3 = (-1) then (F_X4_storeAway n0 a0 r_3 μ).bind (fun (μ_9 : gw_M) => gw_let (gw_up μ_9 a0 5 ((μ_9 a0 5) + (1 : Int32))) (fun (μ_12 : gw_M) => gw_let ((v2 ||| ((1 : Int32) <<< (r_3 &&& 31)))) (fun (w_13 : Int32) => (F_X4_framesLedTo n0 a0 μ_12).bind (fun (r_14 : Int32) => (F_X10_lowestOutside n0 r_14 μ_12).bind (fun (r_18 : Int32) => gw_let (v4 + 1) (fun (w_22 : Int32) => F_X4_give_15 n0 a0 n v1 w_13 r_18 w_22 μ_12)))))) else F_X4_give_82 n0 a0 v1 v2 v3 μ))))
def F_X4_give (n0 : Nat) (a0 : Nat) (v1 : Int32) (μ : gw_M) : Option (Int32 × gw_M) := gw_let (((1 : Int32) <<< (v1 &&& 31))) (fun (w_1 : Int32) => (F_X4_framesLedTo n0 a0 μ).bind (fun (r_2 : Int32) => (F_X10_lowestOutside n0 r_2 μ).bind (fun (r_6 : Int32) => F_X4_give_15 n0 a0 n0 v1 w_1 r_6 0 μ)))
theorem B_X4_give_82 {l : Launch} {x : gw_C} {d : Nat} {S : gw_S} {Q : Option Value → gw_S → gw_M → Prop} {K : Nat → gw_Kt} {mc ms cc ss : Nat} (hcc : cc ≤ mc) (hss : ss ≤ ms) (hK : gw_cl l x (d + 1) mc ms bsX4_give Q K) {a0 : Nat} (hS0 : gw_sh S 4 a0) {n0 : Nat} {v1 v2 v3} {u4 u5 : Value} {μ : gw_M} {r μ'} (h : F_X4_give_82 n0 a0 v1 v2 v3 μ = some (r, μ')) (hq : Q (some (.int r)) S μ') : K 82 [.ref a0, .int v1, .int v2, .int v3, u4, u5] [] S μ cc ss := by
  have ka0_0 : gw_kd S a0 = 4 := (hS0 0 _ rfl).1
  have ra0_0_0 : gw_rf S a0 0 = a0 + 1 := (hS0 0 _ rfl).2.2 (0, 1) (by decide)
  have ra0_0_1 : gw_rf S a0 1 = a0 + 5 := (hS0 0 _ rfl).2.2 (1, 5) (by decide)
  have ra0_0_2 : gw_rf S a0 2 = a0 + 6 := (hS0 0 _ rfl).2.2 (2, 6) (by decide)
  have ka0_1 : gw_kd S (a0 + 1) = 8 := (hS0 1 _ rfl).1
  have ka0_5 : gw_kd S (a0 + 5) = 12 := (hS0 5 _ rfl).1
  have la0_5 : gw_ln S (a0 + 5) = 10 := (hS0 5 _ rfl).2.1
  have ka0_6 : gw_kd S (a0 + 6) = 12 := (hS0 6 _ rfl).1
  have la0_6 : gw_ln S (a0 + 6) = 16 := (hS0 6 _ rfl).2.1
  unfold F_X4_give_82 at h
  refine hK _ _ _ _ _ _ _ ?_
  rw [fdX4_give_82]
  simp only [gt_nil, true_and, eq_self, gt_iload_n, gt_ink, gw_nth, gt_iconst, gt_icmp, gt_iret, gt_retz, bkX4_give_82, ka0_0, ra0_0_0, ra0_0_1, ra0_0_2, ka0_1, ka0_5, la0_5, ka0_6, la0_6]
  refine ⟨fun c_1 => ?_, fun c_1 => ?_⟩
  · replace h := gw_ifp2 (gw_c2_ne _ _) h c_1
    refine hK _ _ _ _ _ _ _ ?_
    rw [fdX4_give_89]
    simp only [gt_nil, true_and, eq_self, gt_aload_n, gt_rfk, gw_nth, gt_get_r, gt_get_i, gt_get_z, gt_iload_n, gt_ink, gt_bipush, gt_v0, gt_v1, gt_v2, gt_v3, gt_v4, gt_v5, gt_dup_i, gt_dup_r, gt_iconst, gt_ishl, gt_ixor, gt_iand, gt_put_i, gt_putz, gt_iaload, gt_s1_0, gt_s2_0, gt_s3_0, gt_s4_0, gt_s1_1, gt_s2_1, gt_s3_1, gt_s4_1, gt_acpy, gt_iastore, gt_ior, gt_iret, gt_retz, bkX4_give_89, ka0_0, ra0_0_0, ra0_0_1, ra0_0_2, ka0_1, ka0_5, la0_5, ka0_6, la0_6]
    obtain ⟨μ_3, e_4, h⟩ := gw_bnd h
    refine ⟨rfl, 0, 0, hcc, hss, ok_X8_put (gw_sub hS0 8 1 (by decide +kernel)) e_4 ?_⟩
    simp only [gt_nil, true_and, eq_self, gt_aload_n, gt_rfk, gw_nth, gt_dup_i, gt_dup_r, gt_get_r, gt_get_i, gt_get_z, gt_iconst, gt_iload_n, gt_ink, gt_ishl, gt_ixor, gt_iand, gt_put_i, gt_putz, gt_iaload, gt_s1_0, gt_s2_0, gt_s3_0, gt_s4_0, gt_s1_1, gt_s2_1, gt_s3_1, gt_s4_1, gt_acpy, gt_iastore, gt_ior, gt_iret, gt_retz, Option.toList, List.cons_append, List.nil_append, Nat.add_zero, ka0_0, ra0_0_0, ra0_0_1, ra0_0_2, ka0_1, ka0_5, la0_5, ka0_6, la0_6]
    obtain ⟨μ_6, hμ_6, h⟩ := gw_lt h
    try rw [← hμ_6]
    obtain ⟨c_7, h⟩ := gw_ife h
    refine ⟨c_7, ?_⟩
    obtain ⟨r_8, e_10, h⟩ := gw_bnd h
    refine ⟨rfl, 0, 0, hcc, hss, ok_J9_max_7cf53 e_10 ?_⟩
    simp only [gt_nil, true_and, eq_self, gt_iastore, gt_aload_n, gt_rfk, gw_nth, gt_get_r, gt_get_i, gt_get_z, gt_iload_n, gt_ink, gt_iconst, gt_dup_i, gt_dup_r, gt_ishl, gt_ior, gt_put_i, gt_putz, gt_iret, gt_retz, Option.toList, List.cons_append, List.nil_append, Nat.add_zero, ka0_0, ra0_0_0, ra0_0_1, ra0_0_2, ka0_1, ka0_5, la0_5, ka0_6, la0_6]
    obtain ⟨c_12, h⟩ := gw_ife h
    refine ⟨c_12, ?_⟩
    obtain ⟨μ_13, hμ_13, h⟩ := gw_lt h
    try rw [← hμ_13]
    obtain ⟨c_14, h⟩ := gw_ife h
    refine ⟨c_14, ?_⟩
    obtain ⟨μ_15, hμ_15, h⟩ := gw_lt h
    try rw [← hμ_15]
    obtain ⟨μ_16, hμ_16, h⟩ := gw_lt h
    try rw [← hμ_16]
    obtain ⟨rfl, rfl⟩ := gw_inj2 h
    exact ⟨hcc, hss, hq⟩
  · replace h := gw_ifn2 (gw_c2_ne _ _) h c_1
    obtain ⟨rfl, rfl⟩ := gw_inj2 h
    exact ⟨hcc, hss, hq⟩
theorem B_X4_give_15 {l : Launch} {x : gw_C} {d : Nat} {S : gw_S} {Q : Option Value → gw_S → gw_M → Prop} {K : Nat → gw_Kt} {mc ms cc ss : Nat} (hcc : cc ≤ mc) (hss : ss ≤ ms) (hK : gw_cl l x (d + 1) mc ms bsX4_give Q K) {a0 : Nat} (hS0 : gw_sh S 4 a0) {n0 : Nat} : ∀ {n : Nat} {v1 v2 v3 v4} {u5 : Value} {μ : gw_M} {r μ'}, F_X4_give_15 n0 a0 n v1 v2 v3 v4 μ = some (r, μ') → Q (some (.int r)) S μ' → K 15 [.ref a0, .int v1, .int v2, .int v3, .int v4, u5] [] S μ cc ss := by
  have ka0_0 : gw_kd S a0 = 4 := (hS0 0 _ rfl).1
  have ra0_0_0 : gw_rf S a0 0 = a0 + 1 := (hS0 0 _ rfl).2.2 (0, 1) (by decide)
  have ka0_1 : gw_kd S (a0 + 1) = 8 := (hS0 1 _ rfl).1
  intro n
  induction n with
  | zero => intro v1 v2 v3 v4 u5 μ r μ' h hq; simp [F_X4_give_15] at h
  | succ n ih =>
    intro v1 v2 v3 v4 u5 μ r μ' h hq
    simp only [F_X4_give_15] at h
    refine hK _ _ _ _ _ _ _ ?_
    rw [fdX4_give_15]
    simp only [gt_nil, true_and, eq_self, gt_iload, gt_ink, gw_nth, gt_bipush, gt_icmp, gt_iload_n, gt_iconst, gt_aload_n, gt_rfk, gt_get_r, gt_get_i, gt_get_z, gt_v0, gt_v1, gt_v2, gt_v3, gt_v4, gt_v5, gt_istore, gw_set, gt_goto, bkX4_give_15, ka0_0, ra0_0_0, ka0_1]
    refine ⟨fun c_1 => ?_, fun c_1 => ?_⟩
    · replace h := gw_ifp2 (gw_c2_ge _ _) h c_1
      exact B_X4_give_82 hcc hss hK hS0 h hq
    · replace h := gw_ifn2 (gw_c2_ge _ _) h c_1
      refine ⟨fun c_2 => ?_, fun c_2 => ?_⟩
      · replace h := gw_ifp2 (gw_c2_ne _ _) h c_2
        exact B_X4_give_82 hcc hss hK hS0 h hq
      · replace h := gw_ifn2 (gw_c2_ne _ _) h c_2
        obtain ⟨r_3, e_5, h⟩ := gw_bnd h
        refine ⟨rfl, 0, 0, hcc, hss, ok_X8_eldest (gw_sub hS0 8 1 (by decide +kernel)) e_5 ?_⟩
        simp only [gt_nil, true_and, eq_self, gt_istore, gw_set, gt_iload, gt_ink, gw_nth, gt_iconst, gt_icmp, gt_goto, Option.toList, List.cons_append, List.nil_append, Nat.add_zero, ka0_0, ra0_0_0, ka0_1]
        refine ⟨fun c_7 => ?_, fun c_7 => ?_⟩
        · replace h := gw_ifp2 (gw_c2_ne _ _) h c_7
          refine hK _ _ _ _ _ _ _ ?_
          rw [fdX4_give_45]
          simp only [gt_nil, true_and, eq_self, gt_aload_n, gt_rfk, gw_nth, gt_iload, gt_ink, gt_v0, gt_v1, gt_v2, gt_v3, gt_v4, gt_v5, gt_dup_i, gt_dup_r, gt_get_r, gt_get_i, gt_get_z, gt_iconst, gt_iadd, gt_put_i, gt_putz, gt_iload_n, gt_ishl, gt_ior, gt_istore_n, gw_set, gt_s1_0, gt_s2_0, gt_s3_0, gt_s4_0, gt_s1_1, gt_s2_1, gt_s3_1, gt_s4_1, gt_acpy, gt_iinc, gt_goto, bkX4_give_45, ka0_0, ra0_0_0, ka0_1]
          obtain ⟨μ_9, e_10, h⟩ := gw_bnd h
          refine ⟨rfl, 0, 0, hcc, hss, ok_X4_storeAway hS0 e_10 ?_⟩
          simp only [gt_nil, true_and, eq_self, gt_aload_n, gt_rfk, gw_nth, gt_dup_i, gt_dup_r, gt_get_r, gt_get_i, gt_get_z, gt_iconst, gt_iadd, gt_put_i, gt_putz, gt_iload_n, gt_ink, gt_iload, gt_ishl, gt_ior, gt_istore_n, gw_set, gt_v0, gt_v1, gt_v2, gt_v3, gt_v4, gt_v5, gt_s1_0, gt_s2_0, gt_s3_0, gt_s4_0, gt_s1_1, gt_s2_1, gt_s3_1, gt_s4_1, gt_acpy, gt_iinc, gt_goto, Option.toList, List.cons_append, List.nil_append, Nat.add_zero, ka0_0, ra0_0_0, ka0_1]
          obtain ⟨μ_12, hμ_12, h⟩ := gw_lt h
          try rw [← hμ_12]
          obtain ⟨w_13, hw_13, h⟩ := gw_lt h
          try rw [← hw_13]
          obtain ⟨r_14, e_16, h⟩ := gw_bnd h
          refine ⟨rfl, 0, 0, hcc, hss, ok_X4_framesLedTo hS0 e_16 ?_⟩
          simp only [gt_nil, true_and, eq_self, gt_s1_0, gt_s2_0, gt_s3_0, gt_s4_0, gt_s1_1, gt_s2_1, gt_s3_1, gt_s4_1, gt_acpy, gt_istore_n, gw_set, gt_iinc, gt_ink, gw_nth, gt_goto, Option.toList, List.cons_append, List.nil_append, Nat.add_zero, ka0_0, ra0_0_0, ka0_1]
          obtain ⟨r_18, e_20, h⟩ := gw_bnd h
          refine ⟨rfl, 0, 0, hcc, hss, ok_X10_lowestOutside e_20 ?_⟩
          simp only [gt_nil, true_and, eq_self, gt_istore_n, gw_set, gt_iinc, gt_ink, gw_nth, gt_goto, Option.toList, List.cons_append, List.nil_append, Nat.add_zero, ka0_0, ra0_0_0, ka0_1]
          obtain ⟨w_22, hw_22, h⟩ := gw_lt h
          try rw [← hw_22]
          exact ih h hq
        · replace h := gw_ifn2 (gw_c2_ne _ _) h c_7
          exact B_X4_give_82 hcc hss hK hS0 h hq
theorem ok_X4_give {l : Launch} {x : gw_C} {d : Nat} {S : gw_S} {Q : Option Value → gw_S → gw_M → Prop} {v1 : Int32} {a0 : Nat} {n0 : Nat} {μ : gw_M} {r μ'} (hS0 : gw_sh S 4 a0) (h : F_X4_give n0 a0 v1 μ = some (r, μ')) (hq : Q (some (.int r)) S μ') : gw_ok l x (d + 2) sgX4_give 0 0 [.ref a0, .int v1] S μ Q := by
  refine gw_ok_of stX4_give (lv0 := [.ref a0, .int v1, .retAddr 0, .retAddr 0, .retAddr 0, .retAddr 0]) (Nat.le_of_ble_eq_true rfl) rfl rfl ?_
  intro K hK
  have hcc : 0 ≤ 0 := Nat.zero_le _
  have hss : 0 ≤ 0 := Nat.zero_le _
  have ka0_0 : gw_kd S a0 = 4 := (hS0 0 _ rfl).1
  unfold F_X4_give at h
  refine hK _ _ _ _ _ _ _ ?_
  rw [fdX4_give_0]
  simp only [gt_nil, true_and, eq_self, gt_iconst, gt_iload_n, gt_ink, gw_nth, gt_ishl, gt_istore_n, gw_set, gt_aload_n, gt_rfk, gt_v0, gt_v1, gt_v2, gt_v3, gt_v4, gt_v5, gt_s1_0, gt_s2_0, gt_s3_0, gt_s4_0, gt_s1_1, gt_s2_1, gt_s3_1, gt_s4_1, gt_acpy, gt_istore, bkX4_give_0, ka0_0]
  obtain ⟨w_1, hw_1, h⟩ := gw_lt h
  try rw [← hw_1]
  obtain ⟨r_2, e_4, h⟩ := gw_bnd h
  refine ⟨rfl, 0, 0, hcc, hss, ok_X4_framesLedTo hS0 e_4 ?_⟩
  simp only [gt_nil, true_and, eq_self, gt_s1_0, gt_s2_0, gt_s3_0, gt_s4_0, gt_s1_1, gt_s2_1, gt_s3_1, gt_s4_1, gt_acpy, gt_istore_n, gw_set, gt_iconst, gt_istore, Option.toList, List.cons_append, List.nil_append, Nat.add_zero, ka0_0]
  obtain ⟨r_6, e_8, h⟩ := gw_bnd h
  refine ⟨rfl, 0, 0, hcc, hss, ok_X10_lowestOutside e_8 ?_⟩
  simp only [gt_nil, true_and, eq_self, gt_istore_n, gw_set, gt_iconst, gt_istore, Option.toList, List.cons_append, List.nil_append, Nat.add_zero, ka0_0]
  exact B_X4_give_15 hcc hss hK hS0 h hq
def F_X4_sharesFrame_36 (rec2 : Int32 → Int32 → gw_M → Option (Int32)) (n0 : Nat) (a0 : Nat) (v1 : Int32) (v2 : Int32) (μ : gw_M) : Option (Int32) := gw_let (v2 + 1) (fun (w_1 : Int32) => rec2 v1 w_1 μ)
def F_X4_sharesFrame_2 (n0 : Nat) (a0 : Nat) : Nat → Int32 → Int32 → gw_M → Option (Int32)
  | 0, _, _, _ => none
  | n + 1, v1, v2, μ => (if 16 ≤ v2 then some 0 else (if v2 = v1 then F_X4_sharesFrame_36 (F_X4_sharesFrame_2 n0 a0 n) n0 a0 v1 v2 μ else (if 0 ≤ v2 ∧ v2.toNatClampNeg < 16 then (if 0 ≤ v1 ∧ v1.toNatClampNeg < 16 then (if ¬ (μ (a0 + 2) v2.toNatClampNeg) = (μ (a0 + 2) v1.toNatClampNeg) then F_X4_sharesFrame_36 (F_X4_sharesFrame_2 n0 a0 n) n0 a0 v1 v2 μ else some 1) else none) else none)))
def F_X4_sharesFrame (n0 : Nat) (a0 : Nat) (v1 : Int32) (μ : gw_M) : Option (Int32) := F_X4_sharesFrame_2 n0 a0 n0 v1 0 μ
theorem B_X4_sharesFrame_36 {l : Launch} {x : gw_C} {d : Nat} {S : gw_S} {Q : Option Value → gw_S → gw_M → Prop} {K : Nat → gw_Kt} {mc ms cc ss : Nat} (hcc : cc ≤ mc) (hss : ss ≤ ms) (hK : gw_cl l x (d + 0) mc ms bsX4_sharesFrame Q K) {a0 : Nat} (hS0 : gw_sh S 4 a0) {rec2 : Int32 → Int32 → gw_M → Option (Int32)} (hrec2 : ∀ {v1 v2} {μ : gw_M} {r}, rec2 v1 v2 μ = some r → ((r = 0 ∨ r = 1) → Q (some (.int r)) S μ) → K 2 [.ref a0, .int v1, .int v2] [] S μ cc ss) {n0 : Nat} {v1 v2} {μ : gw_M} {r} (h : F_X4_sharesFrame_36 rec2 n0 a0 v1 v2 μ = some r) (hq : ((r = 0 ∨ r = 1) → Q (some (.int r)) S μ)) : K 36 [.ref a0, .int v1, .int v2] [] S μ cc ss := by
  unfold F_X4_sharesFrame_36 at h
  refine hK _ _ _ _ _ _ _ ?_
  rw [fdX4_sharesFrame_36]
  simp only [gt_nil, true_and, eq_self, gt_iinc, gt_ink, gw_nth, gw_set, gt_goto, bkX4_sharesFrame_36]
  obtain ⟨w_1, hw_1, h⟩ := gw_lt h
  try rw [← hw_1]
  exact hrec2 h hq
theorem B_X4_sharesFrame_2 {l : Launch} {x : gw_C} {d : Nat} {S : gw_S} {Q : Option Value → gw_S → gw_M → Prop} {K : Nat → gw_Kt} {mc ms cc ss : Nat} (hcc : cc ≤ mc) (hss : ss ≤ ms) (hK : gw_cl l x (d + 0) mc ms bsX4_sharesFrame Q K) {a0 : Nat} (hS0 : gw_sh S 4 a0) {n0 : Nat} : ∀ {n : Nat} {v1 v2} {μ : gw_M} {r}, F_X4_sharesFrame_2 n0 a0 n v1 v2 μ = some r → ((r = 0 ∨ r = 1) → Q (some (.int r)) S μ) → K 2 [.ref a0, .int v1, .int v2] [] S μ cc ss := by
  have ka0_0 : gw_kd S a0 = 4 := (hS0 0 _ rfl).1
  have ra0_0_0 : gw_rf S a0 0 = a0 + 1 := (hS0 0 _ rfl).2.2 (0, 1) (by decide)
  have ka0_1 : gw_kd S (a0 + 1) = 8 := (hS0 1 _ rfl).1
  have ra0_1_0 : gw_rf S (a0 + 1) 0 = a0 + 2 := (hS0 1 _ rfl).2.2 (0, 2) (by decide)
  have ka0_2 : gw_kd S (a0 + 2) = 12 := (hS0 2 _ rfl).1
  have la0_2 : gw_ln S (a0 + 2) = 16 := (hS0 2 _ rfl).2.1
  intro n
  induction n with
  | zero => intro v1 v2 μ r h hq; simp [F_X4_sharesFrame_2] at h
  | succ n ih =>
    intro v1 v2 μ r h hq
    simp only [F_X4_sharesFrame_2] at h
    refine hK _ _ _ _ _ _ _ ?_
    rw [fdX4_sharesFrame_2]
    simp only [gt_nil, true_and, eq_self, gt_iload_n, gt_ink, gw_nth, gt_bipush, gt_icmp, gt_aload_n, gt_rfk, gt_get_r, gt_get_i, gt_get_z, gt_iaload, gt_iconst, gt_iret, gt_retz, bkX4_sharesFrame_2, ka0_0, ra0_0_0, ka0_1, ra0_1_0, ka0_2, la0_2]
    refine ⟨fun c_1 => ?_, fun c_1 => ?_⟩
    · replace h := gw_ifp2 (gw_c2_ge _ _) h c_1
      refine hK _ _ _ _ _ _ _ ?_
      rw [fdX4_sharesFrame_42]
      simp only [gt_nil, true_and, eq_self, gt_iconst, gt_iret, gt_retz, bkX4_sharesFrame_42, ka0_0, ra0_0_0, ka0_1, ra0_1_0, ka0_2, la0_2]
      obtain rfl := gw_inj1 h
      exact ⟨(Or.inl rfl), hcc, hss, hq (Or.inl rfl)⟩
    · replace h := gw_ifn2 (gw_c2_ge _ _) h c_1
      refine ⟨fun c_2 => ?_, fun c_2 => ?_⟩
      · replace h := gw_ifp2 (gw_c2_eq _ _) h c_2
        exact B_X4_sharesFrame_36 hcc hss hK hS0 ih h hq
      · replace h := gw_ifn2 (gw_c2_eq _ _) h c_2
        obtain ⟨c_3, h⟩ := gw_ife h
        refine ⟨c_3, ?_⟩
        obtain ⟨c_4, h⟩ := gw_ife h
        refine ⟨c_4, ?_⟩
        refine ⟨fun c_5 => ?_, fun c_5 => ?_⟩
        · replace h := gw_ifp2 (gw_c2_ne _ _) h c_5
          exact B_X4_sharesFrame_36 hcc hss hK hS0 ih h hq
        · replace h := gw_ifn2 (gw_c2_ne _ _) h c_5
          obtain rfl := gw_inj1 h
          exact ⟨(Or.inr rfl), hcc, hss, hq (Or.inr rfl)⟩
theorem ok_X4_sharesFrame {l : Launch} {x : gw_C} {d : Nat} {S : gw_S} {Q : Option Value → gw_S → gw_M → Prop} {v1 : Int32} {a0 : Nat} {n0 : Nat} {μ : gw_M} {r} (hS0 : gw_sh S 4 a0) (h : F_X4_sharesFrame n0 a0 v1 μ = some r) (hq : ((r = 0 ∨ r = 1) → Q (some (.int r)) S μ)) : gw_ok l x (d + 1) sgX4_sharesFrame 0 0 [.ref a0, .int v1] S μ Q := by
  refine gw_ok_of stX4_sharesFrame (lv0 := [.ref a0, .int v1, .retAddr 0]) (Nat.le_of_ble_eq_true rfl) rfl rfl ?_
  intro K hK
  have hcc : 0 ≤ 0 := Nat.zero_le _
  have hss : 0 ≤ 0 := Nat.zero_le _
  unfold F_X4_sharesFrame at h
  refine hK _ _ _ _ _ _ _ ?_
  rw [fdX4_sharesFrame_0]
  simp only [gt_nil, true_and, eq_self, gt_iconst, gt_istore_n, gw_set, bkX4_sharesFrame_0]
  exact B_X4_sharesFrame_2 hcc hss hK hS0 h hq
def F_X4_part (n0 : Nat) (a0 : Nat) (v1 : Int32) (μ : gw_M) : Option (gw_M) := (F_X4_sharesFrame n0 a0 v1 μ).bind (fun (r_1 : Int32) => (if r_1 = 0 then gw_let (gw_up μ a0 3 ((μ a0 3) &&& (((1 : Int32) <<< (v1 &&& 31)) ^^^ ((-1) : Int32)))) (fun (μ_6 : gw_M) => some μ_6) else (F_X4_storeAway n0 a0 v1 μ).bind (fun (μ_8 : gw_M) => some μ_8)))
theorem ok_X4_part {l : Launch} {x : gw_C} {d : Nat} {S : gw_S} {Q : Option Value → gw_S → gw_M → Prop} {v1 : Int32} {a0 : Nat} {n0 : Nat} {μ : gw_M} {μ'} (hS0 : gw_sh S 4 a0) (h : F_X4_part n0 a0 v1 μ = some μ') (hq : Q none S μ') : gw_ok l x (d + 2) sgX4_part 0 0 [.ref a0, .int v1] S μ Q := by
  refine gw_ok_of stX4_part (lv0 := [.ref a0, .int v1]) (Nat.le_of_ble_eq_true rfl) rfl rfl ?_
  intro K hK
  have hcc : 0 ≤ 0 := Nat.zero_le _
  have hss : 0 ≤ 0 := Nat.zero_le _
  have ka0_0 : gw_kd S a0 = 4 := (hS0 0 _ rfl).1
  unfold F_X4_part at h
  refine hK _ _ _ _ _ _ _ ?_
  rw [fdX4_part_0]
  simp only [gt_nil, true_and, eq_self, gt_aload_n, gt_rfk, gw_nth, gt_iload_n, gt_ink, gt_v0, gt_v1, gt_v2, gt_v3, gt_v4, gt_v5, gt_if, gt_goto, bkX4_part_0, ka0_0]
  obtain ⟨r_1, e_3, h⟩ := gw_bnd h
  refine ⟨rfl, 0, 0, hcc, hss, ok_X4_sharesFrame hS0 e_3 ?_⟩
  intro hbr_1
  simp only [gt_nil, true_and, eq_self, gt_if, gt_aload_n, gt_rfk, gw_nth, gt_iload_n, gt_ink, gt_v0, gt_v1, gt_v2, gt_v3, gt_v4, gt_v5, gt_goto, Option.toList, List.cons_append, List.nil_append, Nat.add_zero, ka0_0]
  refine ⟨fun c_5 => ?_, fun c_5 => ?_⟩
  · replace h := gw_ifp h c_5
    refine hK _ _ _ _ _ _ _ ?_
    rw [fdX4_part_16]
    simp only [gt_nil, true_and, eq_self, gt_aload_n, gt_rfk, gw_nth, gt_dup_i, gt_dup_r, gt_get_r, gt_get_i, gt_get_z, gt_iconst, gt_iload_n, gt_ink, gt_ishl, gt_ixor, gt_iand, gt_put_i, gt_putz, bkX4_part_16, ka0_0]
    obtain ⟨μ_6, hμ_6, h⟩ := gw_lt h
    try rw [← hμ_6]
    refine hK _ _ _ _ _ _ _ ?_
    rw [fdX4_part_30]
    simp only [gt_nil, true_and, eq_self, gt_vret, bkX4_part_30, ka0_0]
    obtain rfl := gw_inj1 h
    exact ⟨hcc, hss, hq⟩
  · replace h := gw_ifn h c_5
    obtain ⟨μ_8, e_9, h⟩ := gw_bnd h
    refine ⟨rfl, 0, 0, hcc, hss, ok_X4_storeAway hS0 e_9 ?_⟩
    simp only [gt_nil, true_and, eq_self, gt_goto, Option.toList, List.cons_append, List.nil_append, Nat.add_zero, ka0_0]
    refine hK _ _ _ _ _ _ _ ?_
    rw [fdX4_part_30]
    simp only [gt_nil, true_and, eq_self, gt_vret, bkX4_part_30, ka0_0]
    obtain rfl := gw_inj1 h
    exact ⟨hcc, hss, hq⟩
def F_X4_partsOnWrite_31 (n0 : Nat) (a0 : Nat) (μ : gw_M) : Option (Int32) := some 0
def F_X4_partsOnWrite (n0 : Nat) (a0 : Nat) (v1 : Int32) (μ : gw_M) : Option (Int32) := (F_X10_hasBit n0 (μ a0 3) v1 μ).bind (fun (r_1 : Int32) => (if r_1 = 0 then F_X4_partsOnWrite_31 n0 a0 μ else (if 0 ≤ v1 ∧ v1.toNatClampNeg < 16 then (F_X10_hasBit n0 (μ (a0 + 3) v1.toNatClampNeg) 1 μ).bind (fun (r_7 : Int32) => (if r_7 = 0 then F_X4_partsOnWrite_31 n0 a0 μ else some 1)) else none)))
theorem B_X4_partsOnWrite_31 {l : Launch} {x : gw_C} {d : Nat} {S : gw_S} {Q : Option Value → gw_S → gw_M → Prop} {K : Nat → gw_Kt} {mc ms cc ss : Nat} (hcc : cc ≤ mc) (hss : ss ≤ ms) (hK : gw_cl l x (d + 1) mc ms bsX4_partsOnWrite Q K) {a0 : Nat} (hS0 : gw_sh S 4 a0) {n0 : Nat}  {u1 : Value} {μ : gw_M} {r} (h : F_X4_partsOnWrite_31 n0 a0 μ = some r) (hq : ((r = 0 ∨ r = 1) → Q (some (.int r)) S μ)) : K 31 [.ref a0, u1] [] S μ cc ss := by
  unfold F_X4_partsOnWrite_31 at h
  refine hK _ _ _ _ _ _ _ ?_
  rw [fdX4_partsOnWrite_31]
  simp only [gt_nil, true_and, eq_self, gt_iconst, bkX4_partsOnWrite_31]
  refine hK _ _ _ _ _ _ _ ?_
  rw [fdX4_partsOnWrite_32]
  simp only [gt_nil, true_and, eq_self, gt_iret, gt_retz, bkX4_partsOnWrite_32]
  obtain rfl := gw_inj1 h
  exact ⟨(Or.inl rfl), hcc, hss, hq (Or.inl rfl)⟩
theorem ok_X4_partsOnWrite {l : Launch} {x : gw_C} {d : Nat} {S : gw_S} {Q : Option Value → gw_S → gw_M → Prop} {v1 : Int32} {a0 : Nat} {n0 : Nat} {μ : gw_M} {r} (hS0 : gw_sh S 4 a0) (h : F_X4_partsOnWrite n0 a0 v1 μ = some r) (hq : ((r = 0 ∨ r = 1) → Q (some (.int r)) S μ)) : gw_ok l x (d + 2) sgX4_partsOnWrite 0 0 [.ref a0, .int v1] S μ Q := by
  refine gw_ok_of stX4_partsOnWrite (lv0 := [.ref a0, .int v1]) (Nat.le_of_ble_eq_true rfl) rfl rfl ?_
  intro K hK
  have hcc : 0 ≤ 0 := Nat.zero_le _
  have hss : 0 ≤ 0 := Nat.zero_le _
  have ka0_0 : gw_kd S a0 = 4 := (hS0 0 _ rfl).1
  have ra0_0_0 : gw_rf S a0 0 = a0 + 1 := (hS0 0 _ rfl).2.2 (0, 1) (by decide)
  have ka0_1 : gw_kd S (a0 + 1) = 8 := (hS0 1 _ rfl).1
  have ra0_1_1 : gw_rf S (a0 + 1) 1 = a0 + 3 := (hS0 1 _ rfl).2.2 (1, 3) (by decide)
  have ka0_3 : gw_kd S (a0 + 3) = 12 := (hS0 3 _ rfl).1
  have la0_3 : gw_ln S (a0 + 3) = 16 := (hS0 3 _ rfl).2.1
  unfold F_X4_partsOnWrite at h
  refine hK _ _ _ _ _ _ _ ?_
  rw [fdX4_partsOnWrite_0]
  simp only [gt_nil, true_and, eq_self, gt_aload_n, gt_rfk, gw_nth, gt_get_r, gt_get_i, gt_get_z, gt_iload_n, gt_ink, gt_s1_0, gt_s2_0, gt_s3_0, gt_s4_0, gt_s1_1, gt_s2_1, gt_s3_1, gt_s4_1, gt_acpy, gt_if, gt_iaload, gt_iconst, gt_goto, bkX4_partsOnWrite_0, ka0_0, ra0_0_0, ka0_1, ra0_1_1, ka0_3, la0_3]
  obtain ⟨r_1, e_3, h⟩ := gw_bnd h
  refine ⟨rfl, 0, 0, hcc, hss, ok_X10_hasBit e_3 ?_⟩
  intro hbr_1
  simp only [gt_nil, true_and, eq_self, gt_if, gt_aload_n, gt_rfk, gw_nth, gt_get_r, gt_get_i, gt_get_z, gt_iload_n, gt_ink, gt_iaload, gt_iconst, gt_s1_0, gt_s2_0, gt_s3_0, gt_s4_0, gt_s1_1, gt_s2_1, gt_s3_1, gt_s4_1, gt_acpy, gt_goto, Option.toList, List.cons_append, List.nil_append, Nat.add_zero, ka0_0, ra0_0_0, ka0_1, ra0_1_1, ka0_3, la0_3]
  refine ⟨fun c_5 => ?_, fun c_5 => ?_⟩
  · replace h := gw_ifp h c_5
    exact B_X4_partsOnWrite_31 hcc hss hK hS0 h hq
  · replace h := gw_ifn h c_5
    obtain ⟨c_6, h⟩ := gw_ife h
    refine ⟨c_6, ?_⟩
    obtain ⟨r_7, e_9, h⟩ := gw_bnd h
    refine ⟨rfl, 0, 0, hcc, hss, ok_X10_hasBit e_9 ?_⟩
    intro hbr_7
    simp only [gt_nil, true_and, eq_self, gt_if, gt_iconst, gt_goto, Option.toList, List.cons_append, List.nil_append, Nat.add_zero, ka0_0, ra0_0_0, ka0_1, ra0_1_1, ka0_3, la0_3]
    refine ⟨fun c_11 => ?_, fun c_11 => ?_⟩
    · replace h := gw_ifp h c_11
      exact B_X4_partsOnWrite_31 hcc hss hK hS0 h hq
    · replace h := gw_ifn h c_11
      refine hK _ _ _ _ _ _ _ ?_
      rw [fdX4_partsOnWrite_32]
      simp only [gt_nil, true_and, eq_self, gt_iret, gt_retz, bkX4_partsOnWrite_32, ka0_0, ra0_0_0, ka0_1, ra0_1_1, ka0_3, la0_3]
      obtain rfl := gw_inj1 h
      exact ⟨(Or.inr rfl), hcc, hss, hq (Or.inr rfl)⟩
def F_X8_gives (n0 : Nat) (a0 : Nat) (v1 : Int32) (v2 : Int32) (μ : gw_M) : Option (Int32) := (if 0 ≤ v1 ∧ v1.toNatClampNeg < 16 then (F_X10_hasBit n0 (μ (a0 + 2) v1.toNatClampNeg) v2 μ).bind (fun (r_2 : Int32) => some r_2) else none)
theorem ok_X8_gives {l : Launch} {x : gw_C} {d : Nat} {S : gw_S} {Q : Option Value → gw_S → gw_M → Prop} {v1 v2 : Int32} {a0 : Nat} {n0 : Nat} {μ : gw_M} {r} (hS0 : gw_sh S 8 a0) (h : F_X8_gives n0 a0 v1 v2 μ = some r) (hq : ((r = 0 ∨ r = 1) → Q (some (.int r)) S μ)) : gw_ok l x (d + 2) sgX8_gives 0 0 [.ref a0, .int v1, .int v2] S μ Q := by
  refine gw_ok_of stX8_gives (lv0 := [.ref a0, .int v1, .int v2]) (Nat.le_of_ble_eq_true rfl) rfl rfl ?_
  intro K hK
  have hcc : 0 ≤ 0 := Nat.zero_le _
  have hss : 0 ≤ 0 := Nat.zero_le _
  have ka0_0 : gw_kd S a0 = 8 := (hS0 0 _ rfl).1
  have ra0_0_1 : gw_rf S a0 1 = a0 + 2 := (hS0 0 _ rfl).2.2 (1, 2) (by decide)
  have ka0_2 : gw_kd S (a0 + 2) = 12 := (hS0 2 _ rfl).1
  have la0_2 : gw_ln S (a0 + 2) = 16 := (hS0 2 _ rfl).2.1
  unfold F_X8_gives at h
  refine hK _ _ _ _ _ _ _ ?_
  rw [fdX8_gives_0]
  simp only [gt_nil, true_and, eq_self, gt_aload_n, gt_rfk, gw_nth, gt_get_r, gt_get_i, gt_get_z, gt_iload_n, gt_ink, gt_iaload, gt_s1_0, gt_s2_0, gt_s3_0, gt_s4_0, gt_s1_1, gt_s2_1, gt_s3_1, gt_s4_1, gt_acpy, gt_iret, gt_retz, bkX8_gives_0, ka0_0, ra0_0_1, ka0_2, la0_2]
  obtain ⟨c_1, h⟩ := gw_ife h
  refine ⟨c_1, ?_⟩
  obtain ⟨r_2, e_4, h⟩ := gw_bnd h
  refine ⟨rfl, 0, 0, hcc, hss, ok_X10_hasBit e_4 ?_⟩
  intro hbr_2
  simp only [gt_nil, true_and, eq_self, gt_iret, gt_retz, Option.toList, List.cons_append, List.nil_append, Nat.add_zero, ka0_0, ra0_0_1, ka0_2, la0_2]
  obtain rfl := gw_inj1 h
  exact ⟨hbr_2, hcc, hss, hq hbr_2⟩
def F_X3_foldOnTouch_164 (n0 : Nat) (a0 : Nat) (v1 : Int32) (μ : gw_M) : Option (Int32 × gw_M) := (F_X3_fold n0 a0 v1 μ).bind (fun (μ_2 : gw_M) => some (0, μ_2))
def F_X3_foldOnTouch_116 (n0 : Nat) (a0 : Nat) (v1 : Int32) (v2 : Int32) (v5 : Int32) (μ : gw_M) : Option (Int32 × gw_M) := (F_X8_gives n0 (a0 + 2) v5 v2 μ).bind (fun (r_1 : Int32) => (if ¬ r_1 = 0 then (F_X8_drop n0 (a0 + 8) v1 μ).bind (fun (μ_7 : gw_M) => (F_X8_size n0 (a0 + 8) μ_7).bind (fun (r_10 : Int32) => (if r_10 < (μ_7 a0 2) then F_X3_foldOnTouch_164 n0 a0 v1 μ_7 else (F_X8_dropEldest n0 (a0 + 8) μ_7).bind (fun (μ_16 : gw_M) => F_X3_foldOnTouch_164 n0 a0 v1 μ_16)))) else some ((-4), μ)))
def F_X3_foldOnTouch_88 (n0 : Nat) (a0 : Nat) (v1 : Int32) (v2 : Int32) (v5 : Int32) (μ : gw_M) : Option (Int32 × gw_M) := (F_X8_has n0 (a0 + 2) v5 μ).bind (fun (r_1 : Int32) => (if ¬ r_1 = 0 then F_X3_foldOnTouch_116 n0 a0 v1 v2 v5 μ else (gw_bi (F_X4_give n0 (a0 + 1) v5 μ) (fun (r_6 : Int32) (μ_7 : gw_M) => (F_X3_unfold n0 a0 r_6 μ_7).bind (fun (μ_11 : gw_M) => F_X3_foldOnTouch_116 n0 a0 v1 v2 v5 μ_11)))))
def F_X3_foldOnTouch (n0 : Nat) (a0 : Nat) (v1 : Int32) (v2 : Int32) (μ : gw_M) : Option (Int32 × gw_M) := (F_X3_inHand n0 a0 μ).bind (fun (r_1 : Nat) => gw_let ((((4 : Int32) * v1) + v2)) (fun (w_5 : Int32) => (F_X8_gives n0 (r_1 + 11) v1 v2 μ).bind (fun (r_6 : Int32) => (if ¬ r_6 = 0 then (F_X3_hostSees n0 a0 2 w_5 μ).bind (fun (μ_12 : gw_M) => (if 0 ≤ v1 ∧ v1.toNatClampNeg < 16 then gw_let ((μ_12 (r_1 + 12) v1.toNatClampNeg)) (fun (w_16 : Int32) => (if ¬ v2 = 1 then F_X3_foldOnTouch_88 n0 a0 v1 v2 w_16 μ_12 else (F_X4_partsOnWrite n0 (a0 + 1) w_16 μ_12).bind (fun (r_18 : Int32) => (if r_18 = 0 then F_X3_foldOnTouch_88 n0 a0 v1 v2 w_16 μ_12 else (F_X4_part n0 (a0 + 1) w_16 μ_12).bind (fun (μ_24 : gw_M) => (F_X3_unfold n0 a0 ((1 : Int32) <<< (w_16 &&& 31)) μ_24).bind (fun (μ_28 : gw_M) => F_X3_foldOnTouch_88 n0 a0 v1 v2 w_16 μ_28)))))) else none)) else gw_let (gw_up μ a0 12 v1) (fun (μ_31 : gw_M) => (F_X3_dealToOuter n0 a0 1 w_5 μ_31).bind (fun (μ_33 : gw_M) => some ((-3), μ_33)))))))
theorem B_X3_foldOnTouch_164 {l : Launch} {x : gw_C} {d : Nat} {S : gw_S} {Q : Option Value → gw_S → gw_M → Prop} {K : Nat → gw_Kt} {mc ms cc ss : Nat} (hcc : cc ≤ mc) (hss : ss ≤ ms) (hK : gw_cl l x (d + 2) mc ms bsX3_foldOnTouch Q K) {a0 : Nat} (hS0 : gw_sh S 3 a0) {n0 : Nat} {v1} {u2 u3 u4 u5 : Value} {μ : gw_M} {r μ'} (h : F_X3_foldOnTouch_164 n0 a0 v1 μ = some (r, μ')) (hq : Q (some (.int r)) S μ') : K 164 [.ref a0, .int v1, u2, u3, u4, u5] [] S μ cc ss := by
  have ka0_0 : gw_kd S a0 = 3 := (hS0 0 _ rfl).1
  unfold F_X3_foldOnTouch_164 at h
  refine hK _ _ _ _ _ _ _ ?_
  rw [fdX3_foldOnTouch_164]
  simp only [gt_nil, true_and, eq_self, gt_aload_n, gt_rfk, gw_nth, gt_iload_n, gt_ink, gt_v0, gt_v1, gt_v2, gt_v3, gt_v4, gt_v5, gt_iconst, gt_iret, gt_retz, bkX3_foldOnTouch_164, ka0_0]
  obtain ⟨μ_2, e_3, h⟩ := gw_bnd h
  refine ⟨rfl, 0, 0, hcc, hss, ok_X3_fold hS0 e_3 ?_⟩
  simp only [gt_nil, true_and, eq_self, gt_iconst, gt_iret, gt_retz, Option.toList, List.cons_append, List.nil_append, Nat.add_zero, ka0_0]
  obtain ⟨rfl, rfl⟩ := gw_inj2 h
  exact ⟨hcc, hss, hq⟩
theorem B_X3_foldOnTouch_116 {l : Launch} {x : gw_C} {d : Nat} {S : gw_S} {Q : Option Value → gw_S → gw_M → Prop} {K : Nat → gw_Kt} {mc ms cc ss : Nat} (hcc : cc ≤ mc) (hss : ss ≤ ms) (hK : gw_cl l x (d + 2) mc ms bsX3_foldOnTouch Q K) {a0 : Nat} (hS0 : gw_sh S 3 a0) {n0 : Nat} {v1 v2 v5} {u3 u4 : Value} {μ : gw_M} {r μ'} (h : F_X3_foldOnTouch_116 n0 a0 v1 v2 v5 μ = some (r, μ')) (hq : Q (some (.int r)) S μ') : K 116 [.ref a0, .int v1, .int v2, u3, u4, .int v5] [] S μ cc ss := by
  have ka0_0 : gw_kd S a0 = 3 := (hS0 0 _ rfl).1
  have ra0_0_0 : gw_rf S a0 0 = a0 + 1 := (hS0 0 _ rfl).2.2 (0, 1) (by decide)
  have ra0_0_1 : gw_rf S a0 1 = a0 + 8 := (hS0 0 _ rfl).2.2 (1, 8) (by decide)
  have ka0_1 : gw_kd S (a0 + 1) = 4 := (hS0 1 _ rfl).1
  have ra0_1_0 : gw_rf S (a0 + 1) 0 = a0 + 2 := (hS0 1 _ rfl).2.2 (0, 2) (by decide)
  have ka0_2 : gw_kd S (a0 + 2) = 8 := (hS0 2 _ rfl).1
  have ka0_8 : gw_kd S (a0 + 8) = 8 := (hS0 8 _ rfl).1
  unfold F_X3_foldOnTouch_116 at h
  refine hK _ _ _ _ _ _ _ ?_
  rw [fdX3_foldOnTouch_116]
  simp only [gt_nil, true_and, eq_self, gt_aload_n, gt_rfk, gw_nth, gt_get_r, gt_get_i, gt_get_z, gt_iload, gt_ink, gt_iload_n, gt_v0, gt_v1, gt_v2, gt_v3, gt_v4, gt_v5, gt_if, gt_bipush, gt_iret, gt_retz, bkX3_foldOnTouch_116, ka0_0, ra0_0_0, ra0_0_1, ka0_1, ra0_1_0, ka0_2, ka0_8]
  obtain ⟨r_1, e_3, h⟩ := gw_bnd h
  refine ⟨rfl, 0, 0, hcc, hss, ok_X8_gives (gw_sub hS0 8 2 (by decide +kernel)) e_3 ?_⟩
  intro hbr_1
  simp only [gt_nil, true_and, eq_self, gt_if, gt_bipush, gt_iret, gt_retz, Option.toList, List.cons_append, List.nil_append, Nat.add_zero, ka0_0, ra0_0_0, ra0_0_1, ka0_1, ra0_1_0, ka0_2, ka0_8]
  refine ⟨fun c_5 => ?_, fun c_5 => ?_⟩
  · replace h := gw_ifp h c_5
    refine hK _ _ _ _ _ _ _ ?_
    rw [fdX3_foldOnTouch_135]
    simp only [gt_nil, true_and, eq_self, gt_aload_n, gt_rfk, gw_nth, gt_get_r, gt_get_i, gt_get_z, gt_iload_n, gt_ink, gt_v0, gt_v1, gt_v2, gt_v3, gt_v4, gt_v5, gt_icmp, bkX3_foldOnTouch_135, ka0_0, ra0_0_0, ra0_0_1, ka0_1, ra0_1_0, ka0_2, ka0_8]
    obtain ⟨μ_7, e_8, h⟩ := gw_bnd h
    refine ⟨rfl, 0, 0, hcc, hss, ok_X8_drop (gw_sub hS0 8 8 (by decide +kernel)) e_8 ?_⟩
    simp only [gt_nil, true_and, eq_self, gt_aload_n, gt_rfk, gw_nth, gt_get_r, gt_get_i, gt_get_z, gt_v0, gt_v1, gt_v2, gt_v3, gt_v4, gt_v5, gt_icmp, Option.toList, List.cons_append, List.nil_append, Nat.add_zero, ka0_0, ra0_0_0, ra0_0_1, ka0_1, ra0_1_0, ka0_2, ka0_8]
    obtain ⟨r_10, e_12, h⟩ := gw_bnd h
    refine ⟨rfl, 0, 0, hcc, hss, ok_X8_size (gw_sub hS0 8 8 (by decide +kernel)) e_12 ?_⟩
    simp only [gt_nil, true_and, eq_self, gt_aload_n, gt_rfk, gw_nth, gt_get_r, gt_get_i, gt_get_z, gt_icmp, gt_v0, gt_v1, gt_v2, gt_v3, gt_v4, gt_v5, Option.toList, List.cons_append, List.nil_append, Nat.add_zero, ka0_0, ra0_0_0, ra0_0_1, ka0_1, ra0_1_0, ka0_2, ka0_8]
    refine ⟨fun c_14 => ?_, fun c_14 => ?_⟩
    · replace h := gw_ifp2 (gw_c2_lt _ _) h c_14
      exact B_X3_foldOnTouch_164 hcc hss hK hS0 h hq
    · replace h := gw_ifn2 (gw_c2_lt _ _) h c_14
      obtain ⟨μ_16, e_17, h⟩ := gw_bnd h
      refine ⟨rfl, 0, 0, hcc, hss, ok_X8_dropEldest (gw_sub hS0 8 8 (by decide +kernel)) e_17 ?_⟩
      simp only [gt_nil, true_and, eq_self, Option.toList, List.cons_append, List.nil_append, Nat.add_zero, ka0_0, ra0_0_0, ra0_0_1, ka0_1, ra0_1_0, ka0_2, ka0_8]
      exact B_X3_foldOnTouch_164 hcc hss hK hS0 h hq
  · replace h := gw_ifn h c_5
    obtain ⟨rfl, rfl⟩ := gw_inj2 h
    exact ⟨hcc, hss, hq⟩
theorem B_X3_foldOnTouch_88 {l : Launch} {x : gw_C} {d : Nat} {S : gw_S} {Q : Option Value → gw_S → gw_M → Prop} {K : Nat → gw_Kt} {mc ms cc ss : Nat} (hcc : cc ≤ mc) (hss : ss ≤ ms) (hK : gw_cl l x (d + 2) mc ms bsX3_foldOnTouch Q K) {a0 : Nat} (hS0 : gw_sh S 3 a0) {n0 : Nat} {v1 v2 v5} {u3 u4 : Value} {μ : gw_M} {r μ'} (h : F_X3_foldOnTouch_88 n0 a0 v1 v2 v5 μ = some (r, μ')) (hq : Q (some (.int r)) S μ') : K 88 [.ref a0, .int v1, .int v2, u3, u4, .int v5] [] S μ cc ss := by
  have ka0_0 : gw_kd S a0 = 3 := (hS0 0 _ rfl).1
  have ra0_0_0 : gw_rf S a0 0 = a0 + 1 := (hS0 0 _ rfl).2.2 (0, 1) (by decide)
  have ka0_1 : gw_kd S (a0 + 1) = 4 := (hS0 1 _ rfl).1
  have ra0_1_0 : gw_rf S (a0 + 1) 0 = a0 + 2 := (hS0 1 _ rfl).2.2 (0, 2) (by decide)
  have ka0_2 : gw_kd S (a0 + 2) = 8 := (hS0 2 _ rfl).1
  unfold F_X3_foldOnTouch_88 at h
  refine hK _ _ _ _ _ _ _ ?_
  rw [fdX3_foldOnTouch_88]
  simp only [gt_nil, true_and, eq_self, gt_aload_n, gt_rfk, gw_nth, gt_get_r, gt_get_i, gt_get_z, gt_iload, gt_ink, gt_v0, gt_v1, gt_v2, gt_v3, gt_v4, gt_v5, gt_if, bkX3_foldOnTouch_88, ka0_0, ra0_0_0, ka0_1, ra0_1_0, ka0_2]
  obtain ⟨r_1, e_3, h⟩ := gw_bnd h
  refine ⟨rfl, 0, 0, hcc, hss, ok_X8_has (gw_sub hS0 8 2 (by decide +kernel)) e_3 ?_⟩
  intro hbr_1
  simp only [gt_nil, true_and, eq_self, gt_if, gt_aload_n, gt_rfk, gw_nth, gt_get_r, gt_get_i, gt_get_z, gt_iload, gt_ink, gt_v0, gt_v1, gt_v2, gt_v3, gt_v4, gt_v5, Option.toList, List.cons_append, List.nil_append, Nat.add_zero, ka0_0, ra0_0_0, ka0_1, ra0_1_0, ka0_2]
  refine ⟨fun c_5 => ?_, fun c_5 => ?_⟩
  · replace h := gw_ifp h c_5
    exact B_X3_foldOnTouch_116 hcc hss hK hS0 h hq
  · replace h := gw_ifn h c_5
    obtain ⟨r_6, μ_7, e_8, h⟩ := gw_bnd2 h
    refine ⟨rfl, 0, 0, hcc, hss, ok_X4_give (gw_sub hS0 4 1 (by decide +kernel)) e_8 ?_⟩
    simp only [gt_nil, true_and, eq_self, gt_v0, gt_v1, gt_v2, gt_v3, gt_v4, gt_v5, Option.toList, List.cons_append, List.nil_append, Nat.add_zero, ka0_0, ra0_0_0, ka0_1, ra0_1_0, ka0_2]
    obtain ⟨μ_11, e_12, h⟩ := gw_bnd h
    refine ⟨rfl, 0, 0, hcc, hss, ok_X3_unfold hS0 e_12 ?_⟩
    simp only [gt_nil, true_and, eq_self, Option.toList, List.cons_append, List.nil_append, Nat.add_zero, ka0_0, ra0_0_0, ka0_1, ra0_1_0, ka0_2]
    exact B_X3_foldOnTouch_116 hcc hss hK hS0 h hq
theorem ok_X3_foldOnTouch {l : Launch} {x : gw_C} {d : Nat} {S : gw_S} {Q : Option Value → gw_S → gw_M → Prop} {v1 v2 : Int32} {a0 : Nat} {n0 : Nat} {μ : gw_M} {r μ'} (hS0 : gw_sh S 3 a0) (h : F_X3_foldOnTouch n0 a0 v1 v2 μ = some (r, μ')) (hq : Q (some (.int r)) S μ') : gw_ok l x (d + 3) sgX3_foldOnTouch 0 0 [.ref a0, .int v1, .int v2] S μ Q := by
  refine gw_ok_of stX3_foldOnTouch (lv0 := [.ref a0, .int v1, .int v2, .retAddr 0, .retAddr 0, .retAddr 0]) (Nat.le_of_ble_eq_true rfl) rfl rfl ?_
  intro K hK
  have hcc : 0 ≤ 0 := Nat.zero_le _
  have hss : 0 ≤ 0 := Nat.zero_le _
  have ka0_0 : gw_kd S a0 = 3 := (hS0 0 _ rfl).1
  have ra0_0_0 : gw_rf S a0 0 = a0 + 1 := (hS0 0 _ rfl).2.2 (0, 1) (by decide)
  have ka0_1 : gw_kd S (a0 + 1) = 4 := (hS0 1 _ rfl).1
  unfold F_X3_foldOnTouch at h
  refine hK _ _ _ _ _ _ _ ?_
  rw [fdX3_foldOnTouch_0]
  simp only [gt_nil, true_and, eq_self, gt_aload_n, gt_rfk, gw_nth, gt_v0, gt_v1, gt_v2, gt_v3, gt_v4, gt_v5, gt_get_r, gt_get_i, gt_get_z, gt_astore_n, gw_set, gt_iconst, gt_iload_n, gt_ink, gt_imul, gt_iadd, gt_istore, gt_if, gt_put_i, gt_putz, gt_iload, gt_bipush, gt_iret, gt_retz, bkX3_foldOnTouch_0, ka0_0, ra0_0_0, ka0_1]
  obtain ⟨r_1, e_3, h⟩ := gw_bnd h
  refine ⟨rfl, 0, 0, hcc, hss, ok_X3_inHand hS0 e_3 ?_⟩
  intro hsr_1
  have kr_1_0 : gw_kd S r_1 = 1 := (hsr_1 0 _ rfl).1
  have rr_1_0_2 : gw_rf S r_1 2 = r_1 + 11 := (hsr_1 0 _ rfl).2.2 (2, 11) (by decide)
  have kr_1_11 : gw_kd S (r_1 + 11) = 8 := (hsr_1 11 _ rfl).1
  have rr_1_11_0 : gw_rf S (r_1 + 11) 0 = r_1 + 12 := (hsr_1 11 _ rfl).2.2 (0, 12) (by decide)
  have kr_1_12 : gw_kd S (r_1 + 12) = 12 := (hsr_1 12 _ rfl).1
  have lr_1_12 : gw_ln S (r_1 + 12) = 16 := (hsr_1 12 _ rfl).2.1
  simp only [gt_nil, true_and, eq_self, gt_get_r, gt_get_i, gt_get_z, gt_astore_n, gw_set, gt_iconst, gt_iload_n, gt_ink, gw_nth, gt_imul, gt_iadd, gt_istore, gt_aload_n, gt_rfk, gt_v0, gt_v1, gt_v2, gt_v3, gt_v4, gt_v5, gt_if, gt_put_i, gt_putz, gt_iload, gt_bipush, gt_iret, gt_retz, Option.toList, List.cons_append, List.nil_append, Nat.add_zero, ka0_0, ra0_0_0, ka0_1, kr_1_0, rr_1_0_2, kr_1_11, rr_1_11_0, kr_1_12, lr_1_12]
  obtain ⟨w_5, hw_5, h⟩ := gw_lt h
  try rw [← hw_5]
  obtain ⟨r_6, e_8, h⟩ := gw_bnd h
  refine ⟨rfl, 0, 0, hcc, hss, ok_X8_gives (gw_sub hsr_1 8 11 (by decide +kernel)) e_8 ?_⟩
  intro hbr_6
  simp only [gt_nil, true_and, eq_self, gt_if, gt_aload_n, gt_rfk, gw_nth, gt_iload_n, gt_ink, gt_put_i, gt_putz, gt_iconst, gt_iload, gt_v0, gt_v1, gt_v2, gt_v3, gt_v4, gt_v5, gt_bipush, gt_iret, gt_retz, Option.toList, List.cons_append, List.nil_append, Nat.add_zero, ka0_0, ra0_0_0, ka0_1, kr_1_0, rr_1_0_2, kr_1_11, rr_1_11_0, kr_1_12, lr_1_12]
  refine ⟨fun c_10 => ?_, fun c_10 => ?_⟩
  · replace h := gw_ifp h c_10
    refine hK _ _ _ _ _ _ _ ?_
    rw [fdX3_foldOnTouch_39]
    simp only [gt_nil, true_and, eq_self, gt_aload_n, gt_rfk, gw_nth, gt_iconst, gt_iload, gt_ink, gt_v0, gt_v1, gt_v2, gt_v3, gt_v4, gt_v5, gt_get_r, gt_get_i, gt_get_z, gt_iload_n, gt_iaload, gt_istore, gw_set, gt_icmp, gt_if, gt_ishl, bkX3_foldOnTouch_39, ka0_0, ra0_0_0, ka0_1, kr_1_0, rr_1_0_2, kr_1_11, rr_1_11_0, kr_1_12, lr_1_12]
    obtain ⟨μ_12, e_13, h⟩ := gw_bnd h
    refine ⟨rfl, 0, 0, hcc, hss, ok_X3_hostSees hS0 e_13 ?_⟩
    simp only [gt_nil, true_and, eq_self, gt_aload_n, gt_rfk, gw_nth, gt_get_r, gt_get_i, gt_get_z, gt_iload_n, gt_ink, gt_iaload, gt_istore, gw_set, gt_iconst, gt_icmp, gt_iload, gt_v0, gt_v1, gt_v2, gt_v3, gt_v4, gt_v5, gt_if, gt_ishl, Option.toList, List.cons_append, List.nil_append, Nat.add_zero, ka0_0, ra0_0_0, ka0_1, kr_1_0, rr_1_0_2, kr_1_11, rr_1_11_0, kr_1_12, lr_1_12]
    obtain ⟨c_15, h⟩ := gw_ife h
    refine ⟨c_15, ?_⟩
    obtain ⟨w_16, hw_16, h⟩ := gw_lt h
    try rw [← hw_16]
    refine ⟨fun c_17 => ?_, fun c_17 => ?_⟩
    · replace h := gw_ifp2 (gw_c2_ne _ _) h c_17
      exact B_X3_foldOnTouch_88 hcc hss hK hS0 h hq
    · replace h := gw_ifn2 (gw_c2_ne _ _) h c_17
      obtain ⟨r_18, e_20, h⟩ := gw_bnd h
      refine ⟨rfl, 0, 0, hcc, hss, ok_X4_partsOnWrite (gw_sub hS0 4 1 (by decide +kernel)) e_20 ?_⟩
      intro hbr_18
      simp only [gt_nil, true_and, eq_self, gt_if, gt_aload_n, gt_rfk, gw_nth, gt_get_r, gt_get_i, gt_get_z, gt_iload, gt_ink, gt_v0, gt_v1, gt_v2, gt_v3, gt_v4, gt_v5, gt_iconst, gt_ishl, Option.toList, List.cons_append, List.nil_append, Nat.add_zero, ka0_0, ra0_0_0, ka0_1, kr_1_0, rr_1_0_2, kr_1_11, rr_1_11_0, kr_1_12, lr_1_12]
      refine ⟨fun c_22 => ?_, fun c_22 => ?_⟩
      · replace h := gw_ifp h c_22
        exact B_X3_foldOnTouch_88 hcc hss hK hS0 h hq
      · replace h := gw_ifn h c_22
        obtain ⟨μ_24, e_25, h⟩ := gw_bnd h
        refine ⟨rfl, 0, 0, hcc, hss, ok_X4_part (gw_sub hS0 4 1 (by decide +kernel)) e_25 ?_⟩
        simp only [gt_nil, true_and, eq_self, gt_aload_n, gt_rfk, gw_nth, gt_iconst, gt_iload, gt_ink, gt_ishl, gt_v0, gt_v1, gt_v2, gt_v3, gt_v4, gt_v5, Option.toList, List.cons_append, List.nil_append, Nat.add_zero, ka0_0, ra0_0_0, ka0_1, kr_1_0, rr_1_0_2, kr_1_11, rr_1_11_0, kr_1_12, lr_1_12]
        obtain ⟨μ_28, e_29, h⟩ := gw_bnd h
        refine ⟨rfl, 0, 0, hcc, hss, ok_X3_unfold hS0 e_29 ?_⟩
        simp only [gt_nil, true_and, eq_self, Option.toList, List.cons_append, List.nil_append, Nat.add_zero, ka0_0, ra0_0_0, ka0_1, kr_1_0, rr_1_0_2, kr_1_11, rr_1_11_0, kr_1_12, lr_1_12]
        exact B_X3_foldOnTouch_88 hcc hss hK hS0 h hq
  · replace h := gw_ifn h c_10
    obtain ⟨μ_31, hμ_31, h⟩ := gw_lt h
    try rw [← hμ_31]
    obtain ⟨μ_33, e_34, h⟩ := gw_bnd h
    refine ⟨rfl, 0, 0, hcc, hss, ok_X3_dealToOuter hS0 e_34 ?_⟩
    simp only [gt_nil, true_and, eq_self, gt_bipush, gt_iret, gt_retz, Option.toList, List.cons_append, List.nil_append, Nat.add_zero, ka0_0, ra0_0_0, ka0_1, kr_1_0, rr_1_0_2, kr_1_11, rr_1_11_0, kr_1_12, lr_1_12]
    obtain ⟨rfl, rfl⟩ := gw_inj2 h
    exact ⟨hcc, hss, hq⟩
def F_X4_touchFrame_24 (n0 : Nat) (a0 : Nat) (v1 : Int32) (μ : gw_M) : Option (Int32 × gw_M) := (if 0 ≤ v1 ∧ v1.toNatClampNeg < 10 then some ((μ (a0 + 5) v1.toNatClampNeg), μ) else none)
def F_X4_touchFrame (n0 : Nat) (a0 : Nat) (v1 : Int32) (v2 : Int32) (v3 : Int32) (μ : gw_M) : Option (Int32 × gw_M) := (if ¬ v2 = 1 then F_X4_touchFrame_24 n0 a0 v1 μ else (if 0 ≤ v1 ∧ v1.toNatClampNeg < 10 then gw_let (gw_up μ (a0 + 5) v1.toNatClampNeg v3) (fun (μ_3 : gw_M) => gw_let (gw_up μ_3 a0 4 ((μ_3 a0 4) ||| ((1 : Int32) <<< (v1 &&& 31)))) (fun (μ_4 : gw_M) => F_X4_touchFrame_24 n0 a0 v1 μ_4)) else none))
theorem B_X4_touchFrame_24 {l : Launch} {x : gw_C} {d : Nat} {S : gw_S} {Q : Option Value → gw_S → gw_M → Prop} {K : Nat → gw_Kt} {mc ms cc ss : Nat} (hcc : cc ≤ mc) (hss : ss ≤ ms) (hK : gw_cl l x (d + 0) mc ms bsX4_touchFrame Q K) {a0 : Nat} (hS0 : gw_sh S 4 a0) {n0 : Nat} {v1} {u2 u3 : Value} {μ : gw_M} {r μ'} (h : F_X4_touchFrame_24 n0 a0 v1 μ = some (r, μ')) (hq : Q (some (.int r)) S μ') : K 24 [.ref a0, .int v1, u2, u3] [] S μ cc ss := by
  have ka0_0 : gw_kd S a0 = 4 := (hS0 0 _ rfl).1
  have ra0_0_1 : gw_rf S a0 1 = a0 + 5 := (hS0 0 _ rfl).2.2 (1, 5) (by decide)
  have ka0_5 : gw_kd S (a0 + 5) = 12 := (hS0 5 _ rfl).1
  have la0_5 : gw_ln S (a0 + 5) = 10 := (hS0 5 _ rfl).2.1
  unfold F_X4_touchFrame_24 at h
  refine hK _ _ _ _ _ _ _ ?_
  rw [fdX4_touchFrame_24]
  simp only [gt_nil, true_and, eq_self, gt_aload_n, gt_rfk, gw_nth, gt_get_r, gt_get_i, gt_get_z, gt_iload_n, gt_ink, gt_iaload, gt_iret, gt_retz, bkX4_touchFrame_24, ka0_0, ra0_0_1, ka0_5, la0_5]
  obtain ⟨c_1, h⟩ := gw_ife h
  refine ⟨c_1, ?_⟩
  obtain ⟨rfl, rfl⟩ := gw_inj2 h
  exact ⟨hcc, hss, hq⟩
theorem ok_X4_touchFrame {l : Launch} {x : gw_C} {d : Nat} {S : gw_S} {Q : Option Value → gw_S → gw_M → Prop} {v1 v2 v3 : Int32} {a0 : Nat} {n0 : Nat} {μ : gw_M} {r μ'} (hS0 : gw_sh S 4 a0) (h : F_X4_touchFrame n0 a0 v1 v2 v3 μ = some (r, μ')) (hq : Q (some (.int r)) S μ') : gw_ok l x (d + 1) sgX4_touchFrame 0 0 [.ref a0, .int v1, .int v2, .int v3] S μ Q := by
  refine gw_ok_of stX4_touchFrame (lv0 := [.ref a0, .int v1, .int v2, .int v3]) (Nat.le_of_ble_eq_true rfl) rfl rfl ?_
  intro K hK
  have hcc : 0 ≤ 0 := Nat.zero_le _
  have hss : 0 ≤ 0 := Nat.zero_le _
  have ka0_0 : gw_kd S a0 = 4 := (hS0 0 _ rfl).1
  have ra0_0_1 : gw_rf S a0 1 = a0 + 5 := (hS0 0 _ rfl).2.2 (1, 5) (by decide)
  have ka0_5 : gw_kd S (a0 + 5) = 12 := (hS0 5 _ rfl).1
  have la0_5 : gw_ln S (a0 + 5) = 10 := (hS0 5 _ rfl).2.1
  unfold F_X4_touchFrame at h
  refine hK _ _ _ _ _ _ _ ?_
  rw [fdX4_touchFrame_0]
  simp only [gt_nil, true_and, eq_self, gt_iload_n, gt_ink, gw_nth, gt_iconst, gt_icmp, gt_aload_n, gt_rfk, gt_get_r, gt_get_i, gt_get_z, gt_iastore, gt_dup_i, gt_dup_r, gt_ishl, gt_ior, gt_put_i, gt_putz, bkX4_touchFrame_0, ka0_0, ra0_0_1, ka0_5, la0_5]
  refine ⟨fun c_1 => ?_, fun c_1 => ?_⟩
  · replace h := gw_ifp2 (gw_c2_ne _ _) h c_1
    exact B_X4_touchFrame_24 hcc hss hK hS0 h hq
  · replace h := gw_ifn2 (gw_c2_ne _ _) h c_1
    obtain ⟨c_2, h⟩ := gw_ife h
    refine ⟨c_2, ?_⟩
    obtain ⟨μ_3, hμ_3, h⟩ := gw_lt h
    try rw [← hμ_3]
    obtain ⟨μ_4, hμ_4, h⟩ := gw_lt h
    try rw [← hμ_4]
    exact B_X4_touchFrame_24 hcc hss hK hS0 h hq
def F_X3_touchByInner_92 (n0 : Nat) (a0 : Nat) (v2 : Int32) (v3 : Int32) (v5 : Int32) (μ : gw_M) : Option (Int32 × gw_M) := (if 0 ≤ v5 ∧ v5.toNatClampNeg < 16 then (gw_bi (F_X4_touchFrame n0 (a0 + 1) (μ (a0 + 9) v5.toNatClampNeg) v2 v3 μ) (fun (r_2 : Int32) (μ_3 : gw_M) => (if v2 = 1 then some (r_2, μ_3) else (F_X2_hear n0 (a0 + 25) r_2 μ_3).bind (fun (μ_8 : gw_M) => some (r_2, μ_8))))) else none)
def F_X3_touchByInner (n0 : Nat) (a0 : Nat) (v1 : Int32) (v2 : Int32) (v3 : Int32) (μ : gw_M) : Option (Int32 × gw_M) := (F_X3_inHand n0 a0 μ).bind (fun (r_1 : Nat) => (F_X8_gives n0 (r_1 + 7) v1 v2 μ).bind (fun (r_5 : Int32) => (if ¬ r_5 = 0 then (if 0 ≤ v1 ∧ v1.toNatClampNeg < 16 then gw_let ((μ (r_1 + 8) v1.toNatClampNeg)) (fun (w_11 : Int32) => (F_X8_gives n0 (a0 + 8) w_11 v2 μ).bind (fun (r_12 : Int32) => (if ¬ r_12 = 0 then F_X3_touchByInner_92 n0 a0 v2 v3 w_11 μ else (gw_bi (F_X3_foldOnTouch n0 a0 w_11 v2 μ) (fun (r_17 : Int32) (μ_18 : gw_M) => (if r_17 = 0 then F_X3_touchByInner_92 n0 a0 v2 v3 w_11 μ_18 else some (r_17, μ_18))))))) else none) else (gw_bi (F_X3_eventOfInner n0 a0 0 μ) (fun (r_22 : Int32) (μ_23 : gw_M) => (if ¬ r_22 = 2 then some ((-2), μ_23) else gw_let (gw_up μ_23 r_1 4 v1) (fun (μ_27 : gw_M) => gw_let (gw_up μ_27 (a0 + 25) 9 ((μ_27 (a0 + 25) 9) + (1 : Int32))) (fun (μ_28 : gw_M) => some ((-2), μ_28)))))))))
theorem B_X3_touchByInner_92 {l : Launch} {x : gw_C} {d : Nat} {S : gw_S} {Q : Option Value → gw_S → gw_M → Prop} {K : Nat → gw_Kt} {mc ms cc ss : Nat} (hcc : cc ≤ mc) (hss : ss ≤ ms) (hK : gw_cl l x (d + 3) mc ms bsX3_touchByInner Q K) {a0 : Nat} (hS0 : gw_sh S 3 a0) {n0 : Nat} {v2 v3 v5} {u1 u4 u6 : Value} {μ : gw_M} {r μ'} (h : F_X3_touchByInner_92 n0 a0 v2 v3 v5 μ = some (r, μ')) (hq : Q (some (.int r)) S μ') : K 92 [.ref a0, u1, .int v2, .int v3, u4, .int v5, u6] [] S μ cc ss := by
  have ka0_0 : gw_kd S a0 = 3 := (hS0 0 _ rfl).1
  have ra0_0_0 : gw_rf S a0 0 = a0 + 1 := (hS0 0 _ rfl).2.2 (0, 1) (by decide)
  have ra0_0_1 : gw_rf S a0 1 = a0 + 8 := (hS0 0 _ rfl).2.2 (1, 8) (by decide)
  have ra0_0_14 : gw_rf S a0 14 = a0 + 25 := (hS0 0 _ rfl).2.2 (14, 25) (by decide)
  have ka0_1 : gw_kd S (a0 + 1) = 4 := (hS0 1 _ rfl).1
  have ka0_25 : gw_kd S (a0 + 25) = 2 := (hS0 25 _ rfl).1
  have ka0_8 : gw_kd S (a0 + 8) = 8 := (hS0 8 _ rfl).1
  have ra0_8_0 : gw_rf S (a0 + 8) 0 = a0 + 9 := (hS0 8 _ rfl).2.2 (0, 9) (by decide)
  have ka0_9 : gw_kd S (a0 + 9) = 12 := (hS0 9 _ rfl).1
  have la0_9 : gw_ln S (a0 + 9) = 16 := (hS0 9 _ rfl).2.1
  unfold F_X3_touchByInner_92 at h
  refine hK _ _ _ _ _ _ _ ?_
  rw [fdX3_touchByInner_92]
  simp only [gt_nil, true_and, eq_self, gt_aload_n, gt_rfk, gw_nth, gt_get_r, gt_get_i, gt_get_z, gt_iload, gt_ink, gt_iaload, gt_iload_n, gt_v0, gt_v1, gt_v2, gt_v3, gt_v4, gt_v5, gt_istore, gw_set, gt_iconst, gt_icmp, bkX3_touchByInner_92, ka0_0, ra0_0_0, ra0_0_1, ra0_0_14, ka0_1, ka0_25, ka0_8, ra0_8_0, ka0_9, la0_9]
  obtain ⟨c_1, h⟩ := gw_ife h
  refine ⟨c_1, ?_⟩
  obtain ⟨r_2, μ_3, e_4, h⟩ := gw_bnd2 h
  refine ⟨rfl, 0, 0, hcc, hss, ok_X4_touchFrame (gw_sub hS0 4 1 (by decide +kernel)) e_4 ?_⟩
  simp only [gt_nil, true_and, eq_self, gt_istore, gw_set, gt_iload_n, gt_ink, gw_nth, gt_iconst, gt_icmp, gt_aload_n, gt_rfk, gt_get_r, gt_get_i, gt_get_z, gt_iload, gt_v0, gt_v1, gt_v2, gt_v3, gt_v4, gt_v5, Option.toList, List.cons_append, List.nil_append, Nat.add_zero, ka0_0, ra0_0_0, ra0_0_1, ra0_0_14, ka0_1, ka0_25, ka0_8, ra0_8_0, ka0_9, la0_9]
  refine ⟨fun c_6 => ?_, fun c_6 => ?_⟩
  · replace h := gw_ifp2 (gw_c2_eq _ _) h c_6
    refine hK _ _ _ _ _ _ _ ?_
    rw [fdX3_touchByInner_127]
    simp only [gt_nil, true_and, eq_self, gt_iload, gt_ink, gw_nth, gt_iret, gt_retz, bkX3_touchByInner_127, ka0_0, ra0_0_0, ra0_0_1, ra0_0_14, ka0_1, ka0_25, ka0_8, ra0_8_0, ka0_9, la0_9]
    obtain ⟨rfl, rfl⟩ := gw_inj2 h
    exact ⟨hcc, hss, hq⟩
  · replace h := gw_ifn2 (gw_c2_eq _ _) h c_6
    obtain ⟨μ_8, e_9, h⟩ := gw_bnd h
    refine ⟨rfl, 0, 0, hcc, hss, ok_X2_hear (gw_sub hS0 2 25 (by decide +kernel)) e_9 ?_⟩
    simp only [gt_nil, true_and, eq_self, Option.toList, List.cons_append, List.nil_append, Nat.add_zero, ka0_0, ra0_0_0, ra0_0_1, ra0_0_14, ka0_1, ka0_25, ka0_8, ra0_8_0, ka0_9, la0_9]
    refine hK _ _ _ _ _ _ _ ?_
    rw [fdX3_touchByInner_127]
    simp only [gt_nil, true_and, eq_self, gt_iload, gt_ink, gw_nth, gt_iret, gt_retz, bkX3_touchByInner_127, ka0_0, ra0_0_0, ra0_0_1, ra0_0_14, ka0_1, ka0_25, ka0_8, ra0_8_0, ka0_9, la0_9]
    obtain ⟨rfl, rfl⟩ := gw_inj2 h
    exact ⟨hcc, hss, hq⟩
theorem ok_X3_touchByInner {l : Launch} {x : gw_C} {d : Nat} {S : gw_S} {Q : Option Value → gw_S → gw_M → Prop} {v1 v2 v3 : Int32} {a0 : Nat} {n0 : Nat} {μ : gw_M} {r μ'} (hS0 : gw_sh S 3 a0) (h : F_X3_touchByInner n0 a0 v1 v2 v3 μ = some (r, μ')) (hq : Q (some (.int r)) S μ') : gw_ok l x (d + 4) sgX3_touchByInner 0 0 [.ref a0, .int v1, .int v2, .int v3] S μ Q := by
  refine gw_ok_of stX3_touchByInner (lv0 := [.ref a0, .int v1, .int v2, .int v3, .retAddr 0, .retAddr 0, .retAddr 0]) (Nat.le_of_ble_eq_true rfl) rfl rfl ?_
  intro K hK
  have hcc : 0 ≤ 0 := Nat.zero_le _
  have hss : 0 ≤ 0 := Nat.zero_le _
  have ka0_0 : gw_kd S a0 = 3 := (hS0 0 _ rfl).1
  have ra0_0_1 : gw_rf S a0 1 = a0 + 8 := (hS0 0 _ rfl).2.2 (1, 8) (by decide)
  have ra0_0_14 : gw_rf S a0 14 = a0 + 25 := (hS0 0 _ rfl).2.2 (14, 25) (by decide)
  have ka0_25 : gw_kd S (a0 + 25) = 2 := (hS0 25 _ rfl).1
  have ka0_8 : gw_kd S (a0 + 8) = 8 := (hS0 8 _ rfl).1
  unfold F_X3_touchByInner at h
  refine hK _ _ _ _ _ _ _ ?_
  rw [fdX3_touchByInner_0]
  simp only [gt_nil, true_and, eq_self, gt_aload_n, gt_rfk, gw_nth, gt_v0, gt_v1, gt_v2, gt_v3, gt_v4, gt_v5, gt_astore, gw_set, gt_aload, gt_get_r, gt_get_i, gt_get_z, gt_iload_n, gt_ink, gt_if, gt_iconst, gt_icmp, gt_put_i, gt_putz, gt_dup_i, gt_dup_r, gt_iadd, bkX3_touchByInner_0, ka0_0, ra0_0_1, ra0_0_14, ka0_25, ka0_8]
  obtain ⟨r_1, e_3, h⟩ := gw_bnd h
  refine ⟨rfl, 0, 0, hcc, hss, ok_X3_inHand hS0 e_3 ?_⟩
  intro hsr_1
  have kr_1_0 : gw_kd S r_1 = 1 := (hsr_1 0 _ rfl).1
  have rr_1_0_1 : gw_rf S r_1 1 = r_1 + 7 := (hsr_1 0 _ rfl).2.2 (1, 7) (by decide)
  have kr_1_7 : gw_kd S (r_1 + 7) = 8 := (hsr_1 7 _ rfl).1
  have rr_1_7_0 : gw_rf S (r_1 + 7) 0 = r_1 + 8 := (hsr_1 7 _ rfl).2.2 (0, 8) (by decide)
  have kr_1_8 : gw_kd S (r_1 + 8) = 12 := (hsr_1 8 _ rfl).1
  have lr_1_8 : gw_ln S (r_1 + 8) = 16 := (hsr_1 8 _ rfl).2.1
  simp only [gt_nil, true_and, eq_self, gt_astore, gw_set, gt_aload, gt_rfk, gw_nth, gt_get_r, gt_get_i, gt_get_z, gt_iload_n, gt_ink, gt_v0, gt_v1, gt_v2, gt_v3, gt_v4, gt_v5, gt_if, gt_aload_n, gt_iconst, gt_icmp, gt_put_i, gt_putz, gt_dup_i, gt_dup_r, gt_iadd, Option.toList, List.cons_append, List.nil_append, Nat.add_zero, ka0_0, ra0_0_1, ra0_0_14, ka0_25, ka0_8, kr_1_0, rr_1_0_1, kr_1_7, rr_1_7_0, kr_1_8, lr_1_8]
  obtain ⟨r_5, e_7, h⟩ := gw_bnd h
  refine ⟨rfl, 0, 0, hcc, hss, ok_X8_gives (gw_sub hsr_1 8 7 (by decide +kernel)) e_7 ?_⟩
  intro hbr_5
  simp only [gt_nil, true_and, eq_self, gt_if, gt_aload_n, gt_rfk, gw_nth, gt_iconst, gt_v0, gt_v1, gt_v2, gt_v3, gt_v4, gt_v5, gt_icmp, gt_aload, gt_iload_n, gt_ink, gt_put_i, gt_putz, gt_get_r, gt_get_i, gt_get_z, gt_dup_i, gt_dup_r, gt_iadd, Option.toList, List.cons_append, List.nil_append, Nat.add_zero, ka0_0, ra0_0_1, ra0_0_14, ka0_25, ka0_8, kr_1_0, rr_1_0_1, kr_1_7, rr_1_7_0, kr_1_8, lr_1_8]
  refine ⟨fun c_9 => ?_, fun c_9 => ?_⟩
  · replace h := gw_ifp h c_9
    refine hK _ _ _ _ _ _ _ ?_
    rw [fdX3_touchByInner_50]
    simp only [gt_nil, true_and, eq_self, gt_aload, gt_rfk, gw_nth, gt_get_r, gt_get_i, gt_get_z, gt_iload_n, gt_ink, gt_iaload, gt_istore, gw_set, gt_aload_n, gt_iload, gt_v0, gt_v1, gt_v2, gt_v3, gt_v4, gt_v5, gt_if, gt_iret, gt_retz, bkX3_touchByInner_50, ka0_0, ra0_0_1, ra0_0_14, ka0_25, ka0_8, kr_1_0, rr_1_0_1, kr_1_7, rr_1_7_0, kr_1_8, lr_1_8]
    obtain ⟨c_10, h⟩ := gw_ife h
    refine ⟨c_10, ?_⟩
    obtain ⟨w_11, hw_11, h⟩ := gw_lt h
    try rw [← hw_11]
    obtain ⟨r_12, e_14, h⟩ := gw_bnd h
    refine ⟨rfl, 0, 0, hcc, hss, ok_X8_gives (gw_sub hS0 8 8 (by decide +kernel)) e_14 ?_⟩
    intro hbr_12
    simp only [gt_nil, true_and, eq_self, gt_if, gt_aload_n, gt_rfk, gw_nth, gt_iload, gt_ink, gt_iload_n, gt_v0, gt_v1, gt_v2, gt_v3, gt_v4, gt_v5, gt_istore, gw_set, gt_iret, gt_retz, Option.toList, List.cons_append, List.nil_append, Nat.add_zero, ka0_0, ra0_0_1, ra0_0_14, ka0_25, ka0_8, kr_1_0, rr_1_0_1, kr_1_7, rr_1_7_0, kr_1_8, lr_1_8]
    refine ⟨fun c_16 => ?_, fun c_16 => ?_⟩
    · replace h := gw_ifp h c_16
      exact B_X3_touchByInner_92 hcc hss hK hS0 h hq
    · replace h := gw_ifn h c_16
      obtain ⟨r_17, μ_18, e_19, h⟩ := gw_bnd2 h
      refine ⟨rfl, 0, 0, hcc, hss, ok_X3_foldOnTouch hS0 e_19 ?_⟩
      simp only [gt_nil, true_and, eq_self, gt_istore, gw_set, gt_iload, gt_ink, gw_nth, gt_if, gt_iret, gt_retz, Option.toList, List.cons_append, List.nil_append, Nat.add_zero, ka0_0, ra0_0_1, ra0_0_14, ka0_25, ka0_8, kr_1_0, rr_1_0_1, kr_1_7, rr_1_7_0, kr_1_8, lr_1_8]
      refine ⟨fun c_21 => ?_, fun c_21 => ?_⟩
      · replace h := gw_ifp h c_21
        exact B_X3_touchByInner_92 hcc hss hK hS0 h hq
      · replace h := gw_ifn h c_21
        obtain ⟨rfl, rfl⟩ := gw_inj2 h
        exact ⟨hcc, hss, hq⟩
  · replace h := gw_ifn h c_9
    obtain ⟨r_22, μ_23, e_24, h⟩ := gw_bnd2 h
    refine ⟨rfl, 0, 0, hcc, hss, ok_X3_eventOfInner hS0 e_24 ?_⟩
    simp only [gt_nil, true_and, eq_self, gt_iconst, gt_icmp, gt_aload, gt_rfk, gw_nth, gt_iload_n, gt_ink, gt_put_i, gt_putz, gt_aload_n, gt_get_r, gt_get_i, gt_get_z, gt_dup_i, gt_dup_r, gt_iadd, Option.toList, List.cons_append, List.nil_append, Nat.add_zero, ka0_0, ra0_0_1, ra0_0_14, ka0_25, ka0_8, kr_1_0, rr_1_0_1, kr_1_7, rr_1_7_0, kr_1_8, lr_1_8]
    refine ⟨fun c_26 => ?_, fun c_26 => ?_⟩
    · replace h := gw_ifp2 (gw_c2_ne _ _) h c_26
      refine hK _ _ _ _ _ _ _ ?_
      rw [fdX3_touchByInner_47]
      simp only [gt_nil, true_and, eq_self, gt_bipush, gt_iret, gt_retz, bkX3_touchByInner_47, ka0_0, ra0_0_1, ra0_0_14, ka0_25, ka0_8, kr_1_0, rr_1_0_1, kr_1_7, rr_1_7_0, kr_1_8, lr_1_8]
      obtain ⟨rfl, rfl⟩ := gw_inj2 h
      exact ⟨hcc, hss, hq⟩
    · replace h := gw_ifn2 (gw_c2_ne _ _) h c_26
      obtain ⟨μ_27, hμ_27, h⟩ := gw_lt h
      try rw [← hμ_27]
      obtain ⟨μ_28, hμ_28, h⟩ := gw_lt h
      try rw [← hμ_28]
      refine hK _ _ _ _ _ _ _ ?_
      rw [fdX3_touchByInner_47]
      simp only [gt_nil, true_and, eq_self, gt_bipush, gt_iret, gt_retz, bkX3_touchByInner_47, ka0_0, ra0_0_1, ra0_0_14, ka0_25, ka0_8, kr_1_0, rr_1_0_1, kr_1_7, rr_1_7_0, kr_1_8, lr_1_8]
      obtain ⟨rfl, rfl⟩ := gw_inj2 h
      exact ⟨hcc, hss, hq⟩
def F_X3_touchByOuter_127 (n0 : Nat) (a0 : Nat) (v1 : Int32) (v2 : Int32) (v3 : Int32) (μ : gw_M) : Option (Int32 × gw_M) := (if 0 ≤ v1 ∧ v1.toNatClampNeg < 16 then (gw_bi (F_X4_touchFrame n0 (a0 + 1) (μ (a0 + 3) v1.toNatClampNeg) v2 v3 μ) (fun (r_2 : Int32) (μ_3 : gw_M) => some (r_2, μ_3))) else none)
def F_X3_touchByOuter_101 (n0 : Nat) (a0 : Nat) (v1 : Int32) (v2 : Int32) (v3 : Int32) (μ : gw_M) : Option (Int32 × gw_M) := (F_X8_has n0 (a0 + 2) v1 μ).bind (fun (r_1 : Int32) => (if ¬ r_1 = 0 then F_X3_touchByOuter_127 n0 a0 v1 v2 v3 μ else (gw_bi (F_X4_give n0 (a0 + 1) v1 μ) (fun (r_6 : Int32) (μ_7 : gw_M) => (F_X3_unfold n0 a0 r_6 μ_7).bind (fun (μ_11 : gw_M) => F_X3_touchByOuter_127 n0 a0 v1 v2 v3 μ_11)))))
def F_X3_touchByOuter_76 (n0 : Nat) (a0 : Nat) (v1 : Int32) (v2 : Int32) (v3 : Int32) (v4 : Int32) (μ : gw_M) : Option (Int32 × gw_M) := (F_X8_gives n0 (a0 + 2) v1 v2 μ).bind (fun (r_1 : Int32) => (if ¬ r_1 = 0 then F_X3_touchByOuter_101 n0 a0 v1 v2 v3 μ else (F_X3_hostSees n0 a0 3 v4 μ).bind (fun (μ_7 : gw_M) => some ((-4), μ_7))))
def F_X3_touchByOuter (n0 : Nat) (a0 : Nat) (v1 : Int32) (v2 : Int32) (v3 : Int32) (μ : gw_M) : Option (Int32 × gw_M) := gw_let ((((64 : Int32) + ((4 : Int32) * v1)) + v2)) (fun (w_1 : Int32) => (F_X8_has n0 (a0 + 2) v1 μ).bind (fun (r_2 : Int32) => (if ¬ r_2 = 0 then (if ¬ v2 = 1 then F_X3_touchByOuter_76 n0 a0 v1 v2 v3 w_1 μ else (F_X4_partsOnWrite n0 (a0 + 1) v1 μ).bind (fun (r_8 : Int32) => (if r_8 = 0 then F_X3_touchByOuter_76 n0 a0 v1 v2 v3 w_1 μ else (F_X3_hostSees n0 a0 9 w_1 μ).bind (fun (μ_14 : gw_M) => (F_X4_part n0 (a0 + 1) v1 μ_14).bind (fun (μ_18 : gw_M) => (F_X3_unfold n0 a0 ((1 : Int32) <<< (v1 &&& 31)) μ_18).bind (fun (μ_22 : gw_M) => F_X3_touchByOuter_101 n0 a0 v1 v2 v3 μ_22)))))) else (F_X3_hostSees n0 a0 2 w_1 μ).bind (fun (μ_26 : gw_M) => F_X3_touchByOuter_101 n0 a0 v1 v2 v3 μ_26))))
theorem B_X3_touchByOuter_127 {l : Launch} {x : gw_C} {d : Nat} {S : gw_S} {Q : Option Value → gw_S → gw_M → Prop} {K : Nat → gw_Kt} {mc ms cc ss : Nat} (hcc : cc ≤ mc) (hss : ss ≤ ms) (hK : gw_cl l x (d + 2) mc ms bsX3_touchByOuter Q K) {a0 : Nat} (hS0 : gw_sh S 3 a0) {n0 : Nat} {v1 v2 v3} {u4 : Value} {μ : gw_M} {r μ'} (h : F_X3_touchByOuter_127 n0 a0 v1 v2 v3 μ = some (r, μ')) (hq : Q (some (.int r)) S μ') : K 127 [.ref a0, .int v1, .int v2, .int v3, u4] [] S μ cc ss := by
  have ka0_0 : gw_kd S a0 = 3 := (hS0 0 _ rfl).1
  have ra0_0_0 : gw_rf S a0 0 = a0 + 1 := (hS0 0 _ rfl).2.2 (0, 1) (by decide)
  have ka0_1 : gw_kd S (a0 + 1) = 4 := (hS0 1 _ rfl).1
  have ra0_1_0 : gw_rf S (a0 + 1) 0 = a0 + 2 := (hS0 1 _ rfl).2.2 (0, 2) (by decide)
  have ka0_2 : gw_kd S (a0 + 2) = 8 := (hS0 2 _ rfl).1
  have ra0_2_0 : gw_rf S (a0 + 2) 0 = a0 + 3 := (hS0 2 _ rfl).2.2 (0, 3) (by decide)
  have ka0_3 : gw_kd S (a0 + 3) = 12 := (hS0 3 _ rfl).1
  have la0_3 : gw_ln S (a0 + 3) = 16 := (hS0 3 _ rfl).2.1
  unfold F_X3_touchByOuter_127 at h
  refine hK _ _ _ _ _ _ _ ?_
  rw [fdX3_touchByOuter_127]
  simp only [gt_nil, true_and, eq_self, gt_aload_n, gt_rfk, gw_nth, gt_get_r, gt_get_i, gt_get_z, gt_iload_n, gt_ink, gt_iaload, gt_v0, gt_v1, gt_v2, gt_v3, gt_v4, gt_v5, gt_iret, gt_retz, bkX3_touchByOuter_127, ka0_0, ra0_0_0, ka0_1, ra0_1_0, ka0_2, ra0_2_0, ka0_3, la0_3]
  obtain ⟨c_1, h⟩ := gw_ife h
  refine ⟨c_1, ?_⟩
  obtain ⟨r_2, μ_3, e_4, h⟩ := gw_bnd2 h
  refine ⟨rfl, 0, 0, hcc, hss, ok_X4_touchFrame (gw_sub hS0 4 1 (by decide +kernel)) e_4 ?_⟩
  simp only [gt_nil, true_and, eq_self, gt_iret, gt_retz, Option.toList, List.cons_append, List.nil_append, Nat.add_zero, ka0_0, ra0_0_0, ka0_1, ra0_1_0, ka0_2, ra0_2_0, ka0_3, la0_3]
  obtain ⟨rfl, rfl⟩ := gw_inj2 h
  exact ⟨hcc, hss, hq⟩
theorem B_X3_touchByOuter_101 {l : Launch} {x : gw_C} {d : Nat} {S : gw_S} {Q : Option Value → gw_S → gw_M → Prop} {K : Nat → gw_Kt} {mc ms cc ss : Nat} (hcc : cc ≤ mc) (hss : ss ≤ ms) (hK : gw_cl l x (d + 2) mc ms bsX3_touchByOuter Q K) {a0 : Nat} (hS0 : gw_sh S 3 a0) {n0 : Nat} {v1 v2 v3} {u4 : Value} {μ : gw_M} {r μ'} (h : F_X3_touchByOuter_101 n0 a0 v1 v2 v3 μ = some (r, μ')) (hq : Q (some (.int r)) S μ') : K 101 [.ref a0, .int v1, .int v2, .int v3, u4] [] S μ cc ss := by
  have ka0_0 : gw_kd S a0 = 3 := (hS0 0 _ rfl).1
  have ra0_0_0 : gw_rf S a0 0 = a0 + 1 := (hS0 0 _ rfl).2.2 (0, 1) (by decide)
  have ka0_1 : gw_kd S (a0 + 1) = 4 := (hS0 1 _ rfl).1
  have ra0_1_0 : gw_rf S (a0 + 1) 0 = a0 + 2 := (hS0 1 _ rfl).2.2 (0, 2) (by decide)
  have ka0_2 : gw_kd S (a0 + 2) = 8 := (hS0 2 _ rfl).1
  unfold F_X3_touchByOuter_101 at h
  refine hK _ _ _ _ _ _ _ ?_
  rw [fdX3_touchByOuter_101]
  simp only [gt_nil, true_and, eq_self, gt_aload_n, gt_rfk, gw_nth, gt_get_r, gt_get_i, gt_get_z, gt_iload_n, gt_ink, gt_v0, gt_v1, gt_v2, gt_v3, gt_v4, gt_v5, gt_if, bkX3_touchByOuter_101, ka0_0, ra0_0_0, ka0_1, ra0_1_0, ka0_2]
  obtain ⟨r_1, e_3, h⟩ := gw_bnd h
  refine ⟨rfl, 0, 0, hcc, hss, ok_X8_has (gw_sub hS0 8 2 (by decide +kernel)) e_3 ?_⟩
  intro hbr_1
  simp only [gt_nil, true_and, eq_self, gt_if, gt_aload_n, gt_rfk, gw_nth, gt_get_r, gt_get_i, gt_get_z, gt_iload_n, gt_ink, gt_v0, gt_v1, gt_v2, gt_v3, gt_v4, gt_v5, Option.toList, List.cons_append, List.nil_append, Nat.add_zero, ka0_0, ra0_0_0, ka0_1, ra0_1_0, ka0_2]
  refine ⟨fun c_5 => ?_, fun c_5 => ?_⟩
  · replace h := gw_ifp h c_5
    exact B_X3_touchByOuter_127 hcc hss hK hS0 h hq
  · replace h := gw_ifn h c_5
    obtain ⟨r_6, μ_7, e_8, h⟩ := gw_bnd2 h
    refine ⟨rfl, 0, 0, hcc, hss, ok_X4_give (gw_sub hS0 4 1 (by decide +kernel)) e_8 ?_⟩
    simp only [gt_nil, true_and, eq_self, gt_v0, gt_v1, gt_v2, gt_v3, gt_v4, gt_v5, Option.toList, List.cons_append, List.nil_append, Nat.add_zero, ka0_0, ra0_0_0, ka0_1, ra0_1_0, ka0_2]
    obtain ⟨μ_11, e_12, h⟩ := gw_bnd h
    refine ⟨rfl, 0, 0, hcc, hss, ok_X3_unfold hS0 e_12 ?_⟩
    simp only [gt_nil, true_and, eq_self, Option.toList, List.cons_append, List.nil_append, Nat.add_zero, ka0_0, ra0_0_0, ka0_1, ra0_1_0, ka0_2]
    exact B_X3_touchByOuter_127 hcc hss hK hS0 h hq
theorem B_X3_touchByOuter_76 {l : Launch} {x : gw_C} {d : Nat} {S : gw_S} {Q : Option Value → gw_S → gw_M → Prop} {K : Nat → gw_Kt} {mc ms cc ss : Nat} (hcc : cc ≤ mc) (hss : ss ≤ ms) (hK : gw_cl l x (d + 2) mc ms bsX3_touchByOuter Q K) {a0 : Nat} (hS0 : gw_sh S 3 a0) {n0 : Nat} {v1 v2 v3 v4} {μ : gw_M} {r μ'} (h : F_X3_touchByOuter_76 n0 a0 v1 v2 v3 v4 μ = some (r, μ')) (hq : Q (some (.int r)) S μ') : K 76 [.ref a0, .int v1, .int v2, .int v3, .int v4] [] S μ cc ss := by
  have ka0_0 : gw_kd S a0 = 3 := (hS0 0 _ rfl).1
  have ra0_0_0 : gw_rf S a0 0 = a0 + 1 := (hS0 0 _ rfl).2.2 (0, 1) (by decide)
  have ka0_1 : gw_kd S (a0 + 1) = 4 := (hS0 1 _ rfl).1
  have ra0_1_0 : gw_rf S (a0 + 1) 0 = a0 + 2 := (hS0 1 _ rfl).2.2 (0, 2) (by decide)
  have ka0_2 : gw_kd S (a0 + 2) = 8 := (hS0 2 _ rfl).1
  unfold F_X3_touchByOuter_76 at h
  refine hK _ _ _ _ _ _ _ ?_
  rw [fdX3_touchByOuter_76]
  simp only [gt_nil, true_and, eq_self, gt_aload_n, gt_rfk, gw_nth, gt_get_r, gt_get_i, gt_get_z, gt_iload_n, gt_ink, gt_v0, gt_v1, gt_v2, gt_v3, gt_v4, gt_v5, gt_if, gt_iconst, gt_iload, gt_bipush, gt_iret, gt_retz, bkX3_touchByOuter_76, ka0_0, ra0_0_0, ka0_1, ra0_1_0, ka0_2]
  obtain ⟨r_1, e_3, h⟩ := gw_bnd h
  refine ⟨rfl, 0, 0, hcc, hss, ok_X8_gives (gw_sub hS0 8 2 (by decide +kernel)) e_3 ?_⟩
  intro hbr_1
  simp only [gt_nil, true_and, eq_self, gt_if, gt_aload_n, gt_rfk, gw_nth, gt_iconst, gt_iload, gt_ink, gt_v0, gt_v1, gt_v2, gt_v3, gt_v4, gt_v5, gt_bipush, gt_iret, gt_retz, Option.toList, List.cons_append, List.nil_append, Nat.add_zero, ka0_0, ra0_0_0, ka0_1, ra0_1_0, ka0_2]
  refine ⟨fun c_5 => ?_, fun c_5 => ?_⟩
  · replace h := gw_ifp h c_5
    exact B_X3_touchByOuter_101 hcc hss hK hS0 h hq
  · replace h := gw_ifn h c_5
    obtain ⟨μ_7, e_8, h⟩ := gw_bnd h
    refine ⟨rfl, 0, 0, hcc, hss, ok_X3_hostSees hS0 e_8 ?_⟩
    simp only [gt_nil, true_and, eq_self, gt_bipush, gt_iret, gt_retz, Option.toList, List.cons_append, List.nil_append, Nat.add_zero, ka0_0, ra0_0_0, ka0_1, ra0_1_0, ka0_2]
    obtain ⟨rfl, rfl⟩ := gw_inj2 h
    exact ⟨hcc, hss, hq⟩
theorem ok_X3_touchByOuter {l : Launch} {x : gw_C} {d : Nat} {S : gw_S} {Q : Option Value → gw_S → gw_M → Prop} {v1 v2 v3 : Int32} {a0 : Nat} {n0 : Nat} {μ : gw_M} {r μ'} (hS0 : gw_sh S 3 a0) (h : F_X3_touchByOuter n0 a0 v1 v2 v3 μ = some (r, μ')) (hq : Q (some (.int r)) S μ') : gw_ok l x (d + 3) sgX3_touchByOuter 0 0 [.ref a0, .int v1, .int v2, .int v3] S μ Q := by
  refine gw_ok_of stX3_touchByOuter (lv0 := [.ref a0, .int v1, .int v2, .int v3, .retAddr 0]) (Nat.le_of_ble_eq_true rfl) rfl rfl ?_
  intro K hK
  have hcc : 0 ≤ 0 := Nat.zero_le _
  have hss : 0 ≤ 0 := Nat.zero_le _
  have ka0_0 : gw_kd S a0 = 3 := (hS0 0 _ rfl).1
  have ra0_0_0 : gw_rf S a0 0 = a0 + 1 := (hS0 0 _ rfl).2.2 (0, 1) (by decide)
  have ka0_1 : gw_kd S (a0 + 1) = 4 := (hS0 1 _ rfl).1
  have ra0_1_0 : gw_rf S (a0 + 1) 0 = a0 + 2 := (hS0 1 _ rfl).2.2 (0, 2) (by decide)
  have ka0_2 : gw_kd S (a0 + 2) = 8 := (hS0 2 _ rfl).1
  unfold F_X3_touchByOuter at h
  refine hK _ _ _ _ _ _ _ ?_
  rw [fdX3_touchByOuter_0]
  simp only [gt_nil, true_and, eq_self, gt_bipush, gt_iconst, gt_iload_n, gt_ink, gw_nth, gt_imul, gt_iadd, gt_istore, gw_set, gt_aload_n, gt_rfk, gt_get_r, gt_get_i, gt_get_z, gt_v0, gt_v1, gt_v2, gt_v3, gt_v4, gt_v5, gt_if, gt_iload, gt_goto, bkX3_touchByOuter_0, ka0_0, ra0_0_0, ka0_1, ra0_1_0, ka0_2]
  obtain ⟨w_1, hw_1, h⟩ := gw_lt h
  try rw [← hw_1]
  obtain ⟨r_2, e_4, h⟩ := gw_bnd h
  refine ⟨rfl, 0, 0, hcc, hss, ok_X8_has (gw_sub hS0 8 2 (by decide +kernel)) e_4 ?_⟩
  intro hbr_2
  simp only [gt_nil, true_and, eq_self, gt_if, gt_aload_n, gt_rfk, gw_nth, gt_iconst, gt_iload, gt_ink, gt_v0, gt_v1, gt_v2, gt_v3, gt_v4, gt_v5, gt_goto, Option.toList, List.cons_append, List.nil_append, Nat.add_zero, ka0_0, ra0_0_0, ka0_1, ra0_1_0, ka0_2]
  refine ⟨fun c_6 => ?_, fun c_6 => ?_⟩
  · replace h := gw_ifp h c_6
    refine hK _ _ _ _ _ _ _ ?_
    rw [fdX3_touchByOuter_34]
    simp only [gt_nil, true_and, eq_self, gt_iload_n, gt_ink, gw_nth, gt_iconst, gt_icmp, gt_aload_n, gt_rfk, gt_get_r, gt_get_i, gt_get_z, gt_v0, gt_v1, gt_v2, gt_v3, gt_v4, gt_v5, gt_if, gt_bipush, gt_iload, gt_ishl, gt_goto, bkX3_touchByOuter_34, ka0_0, ra0_0_0, ka0_1, ra0_1_0, ka0_2]
    refine ⟨fun c_7 => ?_, fun c_7 => ?_⟩
    · replace h := gw_ifp2 (gw_c2_ne _ _) h c_7
      exact B_X3_touchByOuter_76 hcc hss hK hS0 h hq
    · replace h := gw_ifn2 (gw_c2_ne _ _) h c_7
      obtain ⟨r_8, e_10, h⟩ := gw_bnd h
      refine ⟨rfl, 0, 0, hcc, hss, ok_X4_partsOnWrite (gw_sub hS0 4 1 (by decide +kernel)) e_10 ?_⟩
      intro hbr_8
      simp only [gt_nil, true_and, eq_self, gt_if, gt_aload_n, gt_rfk, gw_nth, gt_bipush, gt_iload, gt_ink, gt_v0, gt_v1, gt_v2, gt_v3, gt_v4, gt_v5, gt_get_r, gt_get_i, gt_get_z, gt_iload_n, gt_iconst, gt_ishl, gt_goto, Option.toList, List.cons_append, List.nil_append, Nat.add_zero, ka0_0, ra0_0_0, ka0_1, ra0_1_0, ka0_2]
      refine ⟨fun c_12 => ?_, fun c_12 => ?_⟩
      · replace h := gw_ifp h c_12
        exact B_X3_touchByOuter_76 hcc hss hK hS0 h hq
      · replace h := gw_ifn h c_12
        obtain ⟨μ_14, e_15, h⟩ := gw_bnd h
        refine ⟨rfl, 0, 0, hcc, hss, ok_X3_hostSees hS0 e_15 ?_⟩
        simp only [gt_nil, true_and, eq_self, gt_aload_n, gt_rfk, gw_nth, gt_get_r, gt_get_i, gt_get_z, gt_iload_n, gt_ink, gt_v0, gt_v1, gt_v2, gt_v3, gt_v4, gt_v5, gt_iconst, gt_ishl, gt_goto, Option.toList, List.cons_append, List.nil_append, Nat.add_zero, ka0_0, ra0_0_0, ka0_1, ra0_1_0, ka0_2]
        obtain ⟨μ_18, e_19, h⟩ := gw_bnd h
        refine ⟨rfl, 0, 0, hcc, hss, ok_X4_part (gw_sub hS0 4 1 (by decide +kernel)) e_19 ?_⟩
        simp only [gt_nil, true_and, eq_self, gt_aload_n, gt_rfk, gw_nth, gt_iconst, gt_iload_n, gt_ink, gt_ishl, gt_v0, gt_v1, gt_v2, gt_v3, gt_v4, gt_v5, gt_goto, Option.toList, List.cons_append, List.nil_append, Nat.add_zero, ka0_0, ra0_0_0, ka0_1, ra0_1_0, ka0_2]
        obtain ⟨μ_22, e_23, h⟩ := gw_bnd h
        refine ⟨rfl, 0, 0, hcc, hss, ok_X3_unfold hS0 e_23 ?_⟩
        simp only [gt_nil, true_and, eq_self, gt_goto, Option.toList, List.cons_append, List.nil_append, Nat.add_zero, ka0_0, ra0_0_0, ka0_1, ra0_1_0, ka0_2]
        exact B_X3_touchByOuter_101 hcc hss hK hS0 h hq
  · replace h := gw_ifn h c_6
    obtain ⟨μ_26, e_27, h⟩ := gw_bnd h
    refine ⟨rfl, 0, 0, hcc, hss, ok_X3_hostSees hS0 e_27 ?_⟩
    simp only [gt_nil, true_and, eq_self, gt_goto, Option.toList, List.cons_append, List.nil_append, Nat.add_zero, ka0_0, ra0_0_0, ka0_1, ra0_1_0, ka0_2]
    exact B_X3_touchByOuter_101 hcc hss hK hS0 h hq
def F_X3_eventOfOuter_18 (n0 : Nat) (a0 : Nat) (v1 : Int32) (s0 : Int32) (μ : gw_M) : Option (Int32 × gw_M) := (if 0 ≤ (((3 : Int32) * v1) + s0) ∧ (((3 : Int32) * v1) + s0).toNatClampNeg < 24 then (if 0 ≤ (((3 : Int32) * v1) + s0) ∧ (((3 : Int32) * v1) + s0).toNatClampNeg < 24 then gw_let (gw_up μ (a0 + 32) (((3 : Int32) * v1) + s0).toNatClampNeg ((μ (a0 + 32) (((3 : Int32) * v1) + s0).toNatClampNeg) + (1 : Int32))) (fun (μ_3 : gw_M) => (if ¬ s0 = 0 then some (s0, μ_3) else (F_X3_hostSees n0 a0 5 v1 μ_3).bind (fun (μ_6 : gw_M) => some (s0, μ_6)))) else none) else none)
def F_X3_eventOfOuter (n0 : Nat) (a0 : Nat) (v1 : Int32) (μ : gw_M) : Option (Int32 × gw_M) := (F_X10_hasBit n0 (μ (a0 + 19) 0) v1 μ).bind (fun (r_1 : Int32) => (if r_1 = 0 then F_X3_eventOfOuter_18 n0 a0 v1 2 μ else F_X3_eventOfOuter_18 n0 a0 v1 0 μ))
theorem B_X3_eventOfOuter_18 {l : Launch} {x : gw_C} {d : Nat} {S : gw_S} {Q : Option Value → gw_S → gw_M → Prop} {K : Nat → gw_Kt} {mc ms cc ss : Nat} (hcc : cc ≤ mc) (hss : ss ≤ ms) (hK : gw_cl l x (d + 2) mc ms bsX3_eventOfOuter Q K) {a0 : Nat} (hS0 : gw_sh S 3 a0) {n0 : Nat} {v1 s0} {u2 : Value} {μ : gw_M} {r μ'} (h : F_X3_eventOfOuter_18 n0 a0 v1 s0 μ = some (r, μ')) (hq : Q (some (.int r)) S μ') : K 18 [.ref a0, .int v1, u2] [.int s0] S μ cc ss := by
  have ka0_0 : gw_kd S a0 = 3 := (hS0 0 _ rfl).1
  have ra0_0_14 : gw_rf S a0 14 = a0 + 25 := (hS0 0 _ rfl).2.2 (14, 25) (by decide)
  have ka0_25 : gw_kd S (a0 + 25) = 2 := (hS0 25 _ rfl).1
  have ra0_25_10 : gw_rf S (a0 + 25) 10 = a0 + 32 := (hS0 25 _ rfl).2.2 (10, 32) (by decide)
  have ka0_32 : gw_kd S (a0 + 32) = 12 := (hS0 32 _ rfl).1
  have la0_32 : gw_ln S (a0 + 32) = 24 := (hS0 32 _ rfl).2.1
  unfold F_X3_eventOfOuter_18 at h
  refine hK _ _ _ _ _ _ _ ?_
  rw [fdX3_eventOfOuter_18]
  simp only [gt_nil, true_and, eq_self, gt_istore_n, gw_set, gt_aload_n, gt_rfk, gw_nth, gt_get_r, gt_get_i, gt_get_z, gt_iconst, gt_iload_n, gt_ink, gt_imul, gt_iadd, gt_dup2, gt_iaload, gt_iastore, gt_if, gt_v0, gt_v1, gt_v2, gt_v3, gt_v4, gt_v5, bkX3_eventOfOuter_18, ka0_0, ra0_0_14, ka0_25, ra0_25_10, ka0_32, la0_32]
  obtain ⟨c_1, h⟩ := gw_ife h
  refine ⟨c_1, ?_⟩
  obtain ⟨c_2, h⟩ := gw_ife h
  refine ⟨c_2, ?_⟩
  obtain ⟨μ_3, hμ_3, h⟩ := gw_lt h
  try rw [← hμ_3]
  refine ⟨fun c_4 => ?_, fun c_4 => ?_⟩
  · replace h := gw_ifp h c_4
    refine hK _ _ _ _ _ _ _ ?_
    rw [fdX3_eventOfOuter_46]
    simp only [gt_nil, true_and, eq_self, gt_iload_n, gt_ink, gw_nth, gt_iret, gt_retz, bkX3_eventOfOuter_46, ka0_0, ra0_0_14, ka0_25, ra0_25_10, ka0_32, la0_32]
    obtain ⟨rfl, rfl⟩ := gw_inj2 h
    exact ⟨hcc, hss, hq⟩
  · replace h := gw_ifn h c_4
    obtain ⟨μ_6, e_7, h⟩ := gw_bnd h
    refine ⟨rfl, 0, 0, hcc, hss, ok_X3_hostSees hS0 e_7 ?_⟩
    simp only [gt_nil, true_and, eq_self, Option.toList, List.cons_append, List.nil_append, Nat.add_zero, ka0_0, ra0_0_14, ka0_25, ra0_25_10, ka0_32, la0_32]
    refine hK _ _ _ _ _ _ _ ?_
    rw [fdX3_eventOfOuter_46]
    simp only [gt_nil, true_and, eq_self, gt_iload_n, gt_ink, gw_nth, gt_iret, gt_retz, bkX3_eventOfOuter_46, ka0_0, ra0_0_14, ka0_25, ra0_25_10, ka0_32, la0_32]
    obtain ⟨rfl, rfl⟩ := gw_inj2 h
    exact ⟨hcc, hss, hq⟩
theorem ok_X3_eventOfOuter {l : Launch} {x : gw_C} {d : Nat} {S : gw_S} {Q : Option Value → gw_S → gw_M → Prop} {v1 : Int32} {a0 : Nat} {n0 : Nat} {μ : gw_M} {r μ'} (hS0 : gw_sh S 3 a0) (h : F_X3_eventOfOuter n0 a0 v1 μ = some (r, μ')) (hq : Q (some (.int r)) S μ') : gw_ok l x (d + 3) sgX3_eventOfOuter 0 0 [.ref a0, .int v1] S μ Q := by
  refine gw_ok_of stX3_eventOfOuter (lv0 := [.ref a0, .int v1, .retAddr 0]) (Nat.le_of_ble_eq_true rfl) rfl rfl ?_
  intro K hK
  have hcc : 0 ≤ 0 := Nat.zero_le _
  have hss : 0 ≤ 0 := Nat.zero_le _
  have ka0_0 : gw_kd S a0 = 3 := (hS0 0 _ rfl).1
  have ra0_0_8 : gw_rf S a0 8 = a0 + 19 := (hS0 0 _ rfl).2.2 (8, 19) (by decide)
  have ka0_19 : gw_kd S (a0 + 19) = 12 := (hS0 19 _ rfl).1
  have la0_19 : gw_ln S (a0 + 19) = 2 := (hS0 19 _ rfl).2.1
  unfold F_X3_eventOfOuter at h
  refine hK _ _ _ _ _ _ _ ?_
  rw [fdX3_eventOfOuter_0]
  simp only [gt_nil, true_and, eq_self, gt_aload_n, gt_rfk, gw_nth, gt_get_r, gt_get_i, gt_get_z, gt_iconst, gt_iaload, gt_iload_n, gt_ink, gt_s1_0, gt_s2_0, gt_s3_0, gt_s4_0, gt_s1_1, gt_s2_1, gt_s3_1, gt_s4_1, gt_acpy, gt_if, gt_goto, bkX3_eventOfOuter_0, ka0_0, ra0_0_8, ka0_19, la0_19, (show Int32.toNatClampNeg 0 = 0 from rfl)]
  refine ⟨(⟨by decide, by decide⟩ : gw_in 0 2), ?_⟩
  obtain ⟨r_1, e_3, h⟩ := gw_bnd h
  refine ⟨rfl, 0, 0, hcc, hss, ok_X10_hasBit e_3 ?_⟩
  intro hbr_1
  simp only [gt_nil, true_and, eq_self, gt_if, gt_iconst, gt_goto, Option.toList, List.cons_append, List.nil_append, Nat.add_zero, ka0_0, ra0_0_8, ka0_19, la0_19, (show Int32.toNatClampNeg 0 = 0 from rfl)]
  refine ⟨fun c_5 => ?_, fun c_5 => ?_⟩
  · replace h := gw_ifp h c_5
    refine hK _ _ _ _ _ _ _ ?_
    rw [fdX3_eventOfOuter_17]
    simp only [gt_nil, true_and, eq_self, gt_iconst, bkX3_eventOfOuter_17, ka0_0, ra0_0_8, ka0_19, la0_19, (show Int32.toNatClampNeg 0 = 0 from rfl)]
    exact B_X3_eventOfOuter_18 hcc hss hK hS0 h hq
  · replace h := gw_ifn h c_5
    exact B_X3_eventOfOuter_18 hcc hss hK hS0 h hq
def F_X3_enterInner (n0 : Nat) (a0 : Nat) (μ : gw_M) : Option (gw_M) := gw_let (gw_up μ a0 6 2) (fun (μ_1 : gw_M) => gw_let (gw_up μ_1 a0 11 (μ_1 a0 10)) (fun (μ_2 : gw_M) => some μ_2))
theorem ok_X3_enterInner {l : Launch} {x : gw_C} {d : Nat} {S : gw_S} {Q : Option Value → gw_S → gw_M → Prop} {a0 : Nat} {n0 : Nat} {μ : gw_M} {μ'} (hS0 : gw_sh S 3 a0) (h : F_X3_enterInner n0 a0 μ = some μ') (hq : Q none S μ') : gw_ok l x (d + 1) sgX3_enterInner 0 0 [.ref a0] S μ Q := by
  refine gw_ok_of stX3_enterInner (lv0 := [.ref a0]) (Nat.le_of_ble_eq_true rfl) rfl rfl ?_
  intro K hK
  have hcc : 0 ≤ 0 := Nat.zero_le _
  have hss : 0 ≤ 0 := Nat.zero_le _
  have ka0_0 : gw_kd S a0 = 3 := (hS0 0 _ rfl).1
  unfold F_X3_enterInner at h
  refine hK _ _ _ _ _ _ _ ?_
  rw [fdX3_enterInner_0]
  simp only [gt_nil, true_and, eq_self, gt_aload_n, gt_rfk, gw_nth, gt_iconst, gt_put_i, gt_putz, gt_get_r, gt_get_i, gt_get_z, gt_vret, bkX3_enterInner_0, ka0_0]
  obtain ⟨μ_1, hμ_1, h⟩ := gw_lt h
  try rw [← hμ_1]
  obtain ⟨μ_2, hμ_2, h⟩ := gw_lt h
  try rw [← hμ_2]
  obtain rfl := gw_inj1 h
  exact ⟨hcc, hss, hq⟩
def F_X8_dropAll (n0 : Nat) (a0 : Nat) (μ : gw_M) : Option (gw_M) := gw_let (gw_fil μ (a0 + 1) 16 (-1)) (fun (μ_1 : gw_M) => gw_let (gw_fil μ_1 (a0 + 2) 16 0) (fun (μ_2 : gw_M) => some μ_2))
theorem ok_X8_dropAll {l : Launch} {x : gw_C} {d : Nat} {S : gw_S} {Q : Option Value → gw_S → gw_M → Prop} {a0 : Nat} {n0 : Nat} {μ : gw_M} {μ'} (hS0 : gw_sh S 8 a0) (h : F_X8_dropAll n0 a0 μ = some μ') (hq : Q none S μ') : gw_ok l x (d + 2) sgX8_dropAll 0 0 [.ref a0] S μ Q := by
  refine gw_ok_of stX8_dropAll (lv0 := [.ref a0]) (Nat.le_of_ble_eq_true rfl) rfl rfl ?_
  intro K hK
  have hcc : 0 ≤ 0 := Nat.zero_le _
  have hss : 0 ≤ 0 := Nat.zero_le _
  have ka0_0 : gw_kd S a0 = 8 := (hS0 0 _ rfl).1
  have ra0_0_0 : gw_rf S a0 0 = a0 + 1 := (hS0 0 _ rfl).2.2 (0, 1) (by decide)
  have ra0_0_1 : gw_rf S a0 1 = a0 + 2 := (hS0 0 _ rfl).2.2 (1, 2) (by decide)
  have ka0_1 : gw_kd S (a0 + 1) = 12 := (hS0 1 _ rfl).1
  have la0_1 : gw_ln S (a0 + 1) = 16 := (hS0 1 _ rfl).2.1
  have ka0_2 : gw_kd S (a0 + 2) = 12 := (hS0 2 _ rfl).1
  have la0_2 : gw_ln S (a0 + 2) = 16 := (hS0 2 _ rfl).2.1
  unfold F_X8_dropAll at h
  refine hK _ _ _ _ _ _ _ ?_
  rw [fdX8_dropAll_0]
  simp only [gt_nil, true_and, eq_self, gt_aload_n, gt_rfk, gw_nth, gt_get_r, gt_get_i, gt_get_z, gt_iconst, gt_s1_0, gt_s2_0, gt_s3_0, gt_s4_0, gt_s1_1, gt_s2_1, gt_s3_1, gt_s4_1, gt_acpy, gt_vret, bkX8_dropAll_0, ka0_0, ra0_0_0, ra0_0_1, ka0_1, la0_1, ka0_2, la0_2]
  obtain ⟨μ_1, hμ_1, h⟩ := gw_lt h
  refine ⟨rfl, 0, 0, hcc, hss, ok_J7_fill_53178 ((hS0 1 _ rfl).1) ((hS0 1 _ rfl).2.1) (by decide) ?_⟩
  rw [← hμ_1]
  simp only [gt_nil, true_and, eq_self, gt_aload_n, gt_rfk, gw_nth, gt_get_r, gt_get_i, gt_get_z, gt_iconst, gt_s1_0, gt_s2_0, gt_s3_0, gt_s4_0, gt_s1_1, gt_s2_1, gt_s3_1, gt_s4_1, gt_acpy, gt_vret, Option.toList, List.cons_append, List.nil_append, Nat.add_zero, ka0_0, ra0_0_0, ra0_0_1, ka0_1, la0_1, ka0_2, la0_2]
  obtain ⟨μ_2, hμ_2, h⟩ := gw_lt h
  refine ⟨rfl, 0, 0, hcc, hss, ok_J7_fill_53178 ((hS0 2 _ rfl).1) ((hS0 2 _ rfl).2.1) (by decide) ?_⟩
  rw [← hμ_2]
  simp only [gt_nil, true_and, eq_self, gt_vret, Option.toList, List.cons_append, List.nil_append, Nat.add_zero, ka0_0, ra0_0_0, ra0_0_1, ka0_1, la0_1, ka0_2, la0_2]
  obtain rfl := gw_inj1 h
  exact ⟨hcc, hss, hq⟩
def F_X3_switchTo (n0 : Nat) (a0 : Nat) (v1 : Int32) (μ : gw_M) : Option (gw_M) := gw_let (gw_up μ a0 5 v1) (fun (μ_1 : gw_M) => (F_X8_dropAll n0 (a0 + 8) μ_1).bind (fun (μ_3 : gw_M) => gw_let (gw_up μ_3 a0 12 (-1)) (fun (μ_6 : gw_M) => some μ_6)))
theorem ok_X3_switchTo {l : Launch} {x : gw_C} {d : Nat} {S : gw_S} {Q : Option Value → gw_S → gw_M → Prop} {v1 : Int32} {a0 : Nat} {n0 : Nat} {μ : gw_M} {μ'} (hS0 : gw_sh S 3 a0) (h : F_X3_switchTo n0 a0 v1 μ = some μ') (hq : Q none S μ') : gw_ok l x (d + 3) sgX3_switchTo 0 0 [.ref a0, .int v1] S μ Q := by
  refine gw_ok_of stX3_switchTo (lv0 := [.ref a0, .int v1]) (Nat.le_of_ble_eq_true rfl) rfl rfl ?_
  intro K hK
  have hcc : 0 ≤ 0 := Nat.zero_le _
  have hss : 0 ≤ 0 := Nat.zero_le _
  have ka0_0 : gw_kd S a0 = 3 := (hS0 0 _ rfl).1
  have ra0_0_1 : gw_rf S a0 1 = a0 + 8 := (hS0 0 _ rfl).2.2 (1, 8) (by decide)
  have ka0_8 : gw_kd S (a0 + 8) = 8 := (hS0 8 _ rfl).1
  unfold F_X3_switchTo at h
  refine hK _ _ _ _ _ _ _ ?_
  rw [fdX3_switchTo_0]
  simp only [gt_nil, true_and, eq_self, gt_aload_n, gt_rfk, gw_nth, gt_iload_n, gt_ink, gt_put_i, gt_putz, gt_get_r, gt_get_i, gt_get_z, gt_v0, gt_v1, gt_v2, gt_v3, gt_v4, gt_v5, gt_iconst, gt_vret, bkX3_switchTo_0, ka0_0, ra0_0_1, ka0_8]
  obtain ⟨μ_1, hμ_1, h⟩ := gw_lt h
  try rw [← hμ_1]
  obtain ⟨μ_3, e_4, h⟩ := gw_bnd h
  refine ⟨rfl, 0, 0, hcc, hss, ok_X8_dropAll (gw_sub hS0 8 8 (by decide +kernel)) e_4 ?_⟩
  simp only [gt_nil, true_and, eq_self, gt_aload_n, gt_rfk, gw_nth, gt_iconst, gt_put_i, gt_putz, gt_vret, Option.toList, List.cons_append, List.nil_append, Nat.add_zero, ka0_0, ra0_0_1, ka0_8]
  obtain ⟨μ_6, hμ_6, h⟩ := gw_lt h
  try rw [← hμ_6]
  obtain rfl := gw_inj1 h
  exact ⟨hcc, hss, hq⟩
def F_X3_dealOutToInner (n0 : Nat) (a0 : Nat) (μ : gw_M) : Option (gw_M) := (F_X3_inHand n0 a0 μ).bind (fun (r_1 : Nat) => (F_X0_ready n0 (r_1 + 1) μ).bind (fun (r_5 : Int32) => (if r_5 = (-1) then some μ else (gw_bi (F_X0_take n0 (r_1 + 1) r_5 (μ a0 7) μ) (fun (r_10 : Int32) (μ_11 : gw_M) => (F_X2_noteTake n0 (a0 + 25) 2 r_5 r_10 μ_11).bind (fun (μ_15 : gw_M) => some μ_15))))))
theorem ok_X3_dealOutToInner {l : Launch} {x : gw_C} {d : Nat} {S : gw_S} {Q : Option Value → gw_S → gw_M → Prop} {a0 : Nat} {n0 : Nat} {μ : gw_M} {μ'} (hS0 : gw_sh S 3 a0) (h : F_X3_dealOutToInner n0 a0 μ = some μ') (hq : Q none S μ') : gw_ok l x (d + 3) sgX3_dealOutToInner 0 0 [.ref a0] S μ Q := by
  refine gw_ok_of stX3_dealOutToInner (lv0 := [.ref a0, .retAddr 0, .retAddr 0]) (Nat.le_of_ble_eq_true rfl) rfl rfl ?_
  intro K hK
  have hcc : 0 ≤ 0 := Nat.zero_le _
  have hss : 0 ≤ 0 := Nat.zero_le _
  have ka0_0 : gw_kd S a0 = 3 := (hS0 0 _ rfl).1
  have ra0_0_14 : gw_rf S a0 14 = a0 + 25 := (hS0 0 _ rfl).2.2 (14, 25) (by decide)
  have ka0_25 : gw_kd S (a0 + 25) = 2 := (hS0 25 _ rfl).1
  unfold F_X3_dealOutToInner at h
  refine hK _ _ _ _ _ _ _ ?_
  rw [fdX3_dealOutToInner_0]
  simp only [gt_nil, true_and, eq_self, gt_aload_n, gt_rfk, gw_nth, gt_v0, gt_v1, gt_v2, gt_v3, gt_v4, gt_v5, gt_get_r, gt_get_i, gt_get_z, gt_astore_n, gw_set, gt_istore_n, gt_iload_n, gt_ink, gt_iconst, gt_icmp, bkX3_dealOutToInner_0, ka0_0, ra0_0_14, ka0_25]
  obtain ⟨r_1, e_3, h⟩ := gw_bnd h
  refine ⟨rfl, 0, 0, hcc, hss, ok_X3_inHand hS0 e_3 ?_⟩
  intro hsr_1
  have kr_1_0 : gw_kd S r_1 = 1 := (hsr_1 0 _ rfl).1
  have rr_1_0_0 : gw_rf S r_1 0 = r_1 + 1 := (hsr_1 0 _ rfl).2.2 (0, 1) (by decide)
  have kr_1_1 : gw_kd S (r_1 + 1) = 0 := (hsr_1 1 _ rfl).1
  simp only [gt_nil, true_and, eq_self, gt_get_r, gt_get_i, gt_get_z, gt_astore_n, gw_set, gt_aload_n, gt_rfk, gw_nth, gt_v0, gt_v1, gt_v2, gt_v3, gt_v4, gt_v5, gt_istore_n, gt_iload_n, gt_ink, gt_iconst, gt_icmp, Option.toList, List.cons_append, List.nil_append, Nat.add_zero, ka0_0, ra0_0_14, ka0_25, kr_1_0, rr_1_0_0, kr_1_1]
  obtain ⟨r_5, e_7, h⟩ := gw_bnd h
  refine ⟨rfl, 0, 0, hcc, hss, ok_X0_ready (gw_sub hsr_1 0 1 (by decide +kernel)) e_7 ?_⟩
  simp only [gt_nil, true_and, eq_self, gt_istore_n, gw_set, gt_iload_n, gt_ink, gw_nth, gt_iconst, gt_icmp, gt_aload_n, gt_rfk, gt_get_r, gt_get_i, gt_get_z, gt_v0, gt_v1, gt_v2, gt_v3, gt_v4, gt_v5, Option.toList, List.cons_append, List.nil_append, Nat.add_zero, ka0_0, ra0_0_14, ka0_25, kr_1_0, rr_1_0_0, kr_1_1]
  refine ⟨fun c_9 => ?_, fun c_9 => ?_⟩
  · replace h := gw_ifp2 (gw_c2_eq _ _) h c_9
    refine hK _ _ _ _ _ _ _ ?_
    rw [fdX3_dealOutToInner_36]
    simp only [gt_nil, true_and, eq_self, gt_vret, bkX3_dealOutToInner_36, ka0_0, ra0_0_14, ka0_25, kr_1_0, rr_1_0_0, kr_1_1]
    obtain rfl := gw_inj1 h
    exact ⟨hcc, hss, hq⟩
  · replace h := gw_ifn2 (gw_c2_eq _ _) h c_9
    obtain ⟨r_10, μ_11, e_12, h⟩ := gw_bnd2 h
    refine ⟨rfl, 0, 0, hcc, hss, ok_X0_take (gw_sub hsr_1 0 1 (by decide +kernel)) e_12 ?_⟩
    simp only [gt_nil, true_and, eq_self, gt_v0, gt_v1, gt_v2, gt_v3, gt_v4, gt_v5, Option.toList, List.cons_append, List.nil_append, Nat.add_zero, ka0_0, ra0_0_14, ka0_25, kr_1_0, rr_1_0_0, kr_1_1]
    obtain ⟨μ_15, e_16, h⟩ := gw_bnd h
    refine ⟨rfl, 0, 0, hcc, hss, ok_X2_noteTake (gw_sub hS0 2 25 (by decide +kernel)) e_16 ?_⟩
    simp only [gt_nil, true_and, eq_self, Option.toList, List.cons_append, List.nil_append, Nat.add_zero, ka0_0, ra0_0_14, ka0_25, kr_1_0, rr_1_0_0, kr_1_1]
    refine hK _ _ _ _ _ _ _ ?_
    rw [fdX3_dealOutToInner_36]
    simp only [gt_nil, true_and, eq_self, gt_vret, bkX3_dealOutToInner_36, ka0_0, ra0_0_14, ka0_25, kr_1_0, rr_1_0_0, kr_1_1]
    obtain rfl := gw_inj1 h
    exact ⟨hcc, hss, hq⟩
def F_X3_dealOut_49 (n0 : Nat) (a0 : Nat) (μ : gw_M) : Option (gw_M) := (if ¬ (μ a0 6) = 2 then some μ else (F_X3_dealOutToInner n0 a0 μ).bind (fun (μ_3 : gw_M) => some μ_3))
def F_X3_dealOut_28 (n0 : Nat) (a0 : Nat) (v1 : Int32) (μ : gw_M) : Option (gw_M) := (gw_bi (F_X0_take n0 (a0 + 12) v1 (μ a0 7) μ) (fun (r_1 : Int32) (μ_2 : gw_M) => (F_X2_noteTake n0 (a0 + 25) 1 v1 r_1 μ_2).bind (fun (μ_6 : gw_M) => F_X3_dealOut_49 n0 a0 μ_6)))
def F_X3_dealOut (n0 : Nat) (a0 : Nat) (μ : gw_M) : Option (gw_M) := (F_X0_ready n0 (a0 + 12) μ).bind (fun (r_1 : Int32) => (if r_1 = (-1) then F_X3_dealOut_49 n0 a0 μ else (if ¬ (μ a0 6) = 2 then F_X3_dealOut_28 n0 a0 r_1 μ else (F_X3_dealToOuter n0 a0 6 r_1 μ).bind (fun (μ_8 : gw_M) => F_X3_dealOut_28 n0 a0 r_1 μ_8))))
theorem B_X3_dealOut_49 {l : Launch} {x : gw_C} {d : Nat} {S : gw_S} {Q : Option Value → gw_S → gw_M → Prop} {K : Nat → gw_Kt} {mc ms cc ss : Nat} (hcc : cc ≤ mc) (hss : ss ≤ ms) (hK : gw_cl l x (d + 3) mc ms bsX3_dealOut Q K) {a0 : Nat} (hS0 : gw_sh S 3 a0) {n0 : Nat}  {u1 : Value} {μ : gw_M} {μ'} (h : F_X3_dealOut_49 n0 a0 μ = some μ') (hq : Q none S μ') : K 49 [.ref a0, u1] [] S μ cc ss := by
  have ka0_0 : gw_kd S a0 = 3 := (hS0 0 _ rfl).1
  unfold F_X3_dealOut_49 at h
  refine hK _ _ _ _ _ _ _ ?_
  rw [fdX3_dealOut_49]
  simp only [gt_nil, true_and, eq_self, gt_aload_n, gt_rfk, gw_nth, gt_get_r, gt_get_i, gt_get_z, gt_iconst, gt_icmp, gt_v0, gt_v1, gt_v2, gt_v3, gt_v4, gt_v5, bkX3_dealOut_49, ka0_0]
  refine ⟨fun c_1 => ?_, fun c_1 => ?_⟩
  · replace h := gw_ifp2 (gw_c2_ne _ _) h c_1
    refine hK _ _ _ _ _ _ _ ?_
    rw [fdX3_dealOut_61]
    simp only [gt_nil, true_and, eq_self, gt_vret, bkX3_dealOut_61, ka0_0]
    obtain rfl := gw_inj1 h
    exact ⟨hcc, hss, hq⟩
  · replace h := gw_ifn2 (gw_c2_ne _ _) h c_1
    obtain ⟨μ_3, e_4, h⟩ := gw_bnd h
    refine ⟨rfl, 0, 0, hcc, hss, ok_X3_dealOutToInner hS0 e_4 ?_⟩
    simp only [gt_nil, true_and, eq_self, Option.toList, List.cons_append, List.nil_append, Nat.add_zero, ka0_0]
    refine hK _ _ _ _ _ _ _ ?_
    rw [fdX3_dealOut_61]
    simp only [gt_nil, true_and, eq_self, gt_vret, bkX3_dealOut_61, ka0_0]
    obtain rfl := gw_inj1 h
    exact ⟨hcc, hss, hq⟩
theorem B_X3_dealOut_28 {l : Launch} {x : gw_C} {d : Nat} {S : gw_S} {Q : Option Value → gw_S → gw_M → Prop} {K : Nat → gw_Kt} {mc ms cc ss : Nat} (hcc : cc ≤ mc) (hss : ss ≤ ms) (hK : gw_cl l x (d + 3) mc ms bsX3_dealOut Q K) {a0 : Nat} (hS0 : gw_sh S 3 a0) {n0 : Nat} {v1} {μ : gw_M} {μ'} (h : F_X3_dealOut_28 n0 a0 v1 μ = some μ') (hq : Q none S μ') : K 28 [.ref a0, .int v1] [] S μ cc ss := by
  have ka0_0 : gw_kd S a0 = 3 := (hS0 0 _ rfl).1
  have ra0_0_14 : gw_rf S a0 14 = a0 + 25 := (hS0 0 _ rfl).2.2 (14, 25) (by decide)
  have ra0_0_3 : gw_rf S a0 3 = a0 + 12 := (hS0 0 _ rfl).2.2 (3, 12) (by decide)
  have ka0_12 : gw_kd S (a0 + 12) = 0 := (hS0 12 _ rfl).1
  have ka0_25 : gw_kd S (a0 + 25) = 2 := (hS0 25 _ rfl).1
  unfold F_X3_dealOut_28 at h
  refine hK _ _ _ _ _ _ _ ?_
  rw [fdX3_dealOut_28]
  simp only [gt_nil, true_and, eq_self, gt_aload_n, gt_rfk, gw_nth, gt_get_r, gt_get_i, gt_get_z, gt_iconst, gt_iload_n, gt_ink, gt_v0, gt_v1, gt_v2, gt_v3, gt_v4, gt_v5, bkX3_dealOut_28, ka0_0, ra0_0_14, ra0_0_3, ka0_12, ka0_25]
  obtain ⟨r_1, μ_2, e_3, h⟩ := gw_bnd2 h
  refine ⟨rfl, 0, 0, hcc, hss, ok_X0_take (gw_sub hS0 0 12 (by decide +kernel)) e_3 ?_⟩
  simp only [gt_nil, true_and, eq_self, gt_v0, gt_v1, gt_v2, gt_v3, gt_v4, gt_v5, Option.toList, List.cons_append, List.nil_append, Nat.add_zero, ka0_0, ra0_0_14, ra0_0_3, ka0_12, ka0_25]
  obtain ⟨μ_6, e_7, h⟩ := gw_bnd h
  refine ⟨rfl, 0, 0, hcc, hss, ok_X2_noteTake (gw_sub hS0 2 25 (by decide +kernel)) e_7 ?_⟩
  simp only [gt_nil, true_and, eq_self, Option.toList, List.cons_append, List.nil_append, Nat.add_zero, ka0_0, ra0_0_14, ra0_0_3, ka0_12, ka0_25]
  exact B_X3_dealOut_49 hcc hss hK hS0 h hq
theorem ok_X3_dealOut {l : Launch} {x : gw_C} {d : Nat} {S : gw_S} {Q : Option Value → gw_S → gw_M → Prop} {a0 : Nat} {n0 : Nat} {μ : gw_M} {μ'} (hS0 : gw_sh S 3 a0) (h : F_X3_dealOut n0 a0 μ = some μ') (hq : Q none S μ') : gw_ok l x (d + 4) sgX3_dealOut 0 0 [.ref a0] S μ Q := by
  refine gw_ok_of stX3_dealOut (lv0 := [.ref a0, .retAddr 0]) (Nat.le_of_ble_eq_true rfl) rfl rfl ?_
  intro K hK
  have hcc : 0 ≤ 0 := Nat.zero_le _
  have hss : 0 ≤ 0 := Nat.zero_le _
  have ka0_0 : gw_kd S a0 = 3 := (hS0 0 _ rfl).1
  have ra0_0_3 : gw_rf S a0 3 = a0 + 12 := (hS0 0 _ rfl).2.2 (3, 12) (by decide)
  have ka0_12 : gw_kd S (a0 + 12) = 0 := (hS0 12 _ rfl).1
  unfold F_X3_dealOut at h
  refine hK _ _ _ _ _ _ _ ?_
  rw [fdX3_dealOut_0]
  simp only [gt_nil, true_and, eq_self, gt_aload_n, gt_rfk, gw_nth, gt_get_r, gt_get_i, gt_get_z, gt_v0, gt_v1, gt_v2, gt_v3, gt_v4, gt_v5, gt_istore_n, gw_set, gt_iload_n, gt_ink, gt_iconst, gt_icmp, gt_bipush, bkX3_dealOut_0, ka0_0, ra0_0_3, ka0_12]
  obtain ⟨r_1, e_3, h⟩ := gw_bnd h
  refine ⟨rfl, 0, 0, hcc, hss, ok_X0_ready (gw_sub hS0 0 12 (by decide +kernel)) e_3 ?_⟩
  simp only [gt_nil, true_and, eq_self, gt_istore_n, gw_set, gt_iload_n, gt_ink, gw_nth, gt_iconst, gt_icmp, gt_aload_n, gt_rfk, gt_get_r, gt_get_i, gt_get_z, gt_bipush, gt_v0, gt_v1, gt_v2, gt_v3, gt_v4, gt_v5, Option.toList, List.cons_append, List.nil_append, Nat.add_zero, ka0_0, ra0_0_3, ka0_12]
  refine ⟨fun c_5 => ?_, fun c_5 => ?_⟩
  · replace h := gw_ifp2 (gw_c2_eq _ _) h c_5
    exact B_X3_dealOut_49 hcc hss hK hS0 h hq
  · replace h := gw_ifn2 (gw_c2_eq _ _) h c_5
    refine ⟨fun c_6 => ?_, fun c_6 => ?_⟩
    · replace h := gw_ifp2 (gw_c2_ne _ _) h c_6
      exact B_X3_dealOut_28 hcc hss hK hS0 h hq
    · replace h := gw_ifn2 (gw_c2_ne _ _) h c_6
      obtain ⟨μ_8, e_9, h⟩ := gw_bnd h
      refine ⟨rfl, 0, 0, hcc, hss, ok_X3_dealToOuter hS0 e_9 ?_⟩
      simp only [gt_nil, true_and, eq_self, Option.toList, List.cons_append, List.nil_append, Nat.add_zero, ka0_0, ra0_0_3, ka0_12]
      exact B_X3_dealOut_28 hcc hss hK hS0 h hq
def F_X3_clockAt (n0 : Nat) (a0 : Nat) (v1 : Int32) (v2 : Int32) (μ : gw_M) : Option (Int32) := (if ¬ v1 = 0 then (F_X0_clockUpon n0 (a0 + 12) v2 μ).bind (fun (r_2 : Int32) => (if ¬ v1 = 1 then (F_X3_inHand n0 a0 μ).bind (fun (r_7 : Nat) => (F_X0_clockUpon n0 (r_7 + 1) r_2 μ).bind (fun (r_11 : Int32) => some r_11)) else some r_2)) else some v2)
theorem ok_X3_clockAt {l : Launch} {x : gw_C} {d : Nat} {S : gw_S} {Q : Option Value → gw_S → gw_M → Prop} {v1 v2 : Int32} {a0 : Nat} {n0 : Nat} {μ : gw_M} {r} (hS0 : gw_sh S 3 a0) (h : F_X3_clockAt n0 a0 v1 v2 μ = some r) (hq : Q (some (.int r)) S μ) : gw_ok l x (d + 3) sgX3_clockAt 0 0 [.ref a0, .int v1, .int v2] S μ Q := by
  refine gw_ok_of stX3_clockAt (lv0 := [.ref a0, .int v1, .int v2, .retAddr 0]) (Nat.le_of_ble_eq_true rfl) rfl rfl ?_
  intro K hK
  have hcc : 0 ≤ 0 := Nat.zero_le _
  have hss : 0 ≤ 0 := Nat.zero_le _
  have ka0_0 : gw_kd S a0 = 3 := (hS0 0 _ rfl).1
  have ra0_0_3 : gw_rf S a0 3 = a0 + 12 := (hS0 0 _ rfl).2.2 (3, 12) (by decide)
  have ka0_12 : gw_kd S (a0 + 12) = 0 := (hS0 12 _ rfl).1
  unfold F_X3_clockAt at h
  refine hK _ _ _ _ _ _ _ ?_
  rw [fdX3_clockAt_0]
  simp only [gt_nil, true_and, eq_self, gt_iload_n, gt_ink, gw_nth, gt_if, gt_iret, gt_retz, bkX3_clockAt_0, ka0_0, ra0_0_3, ka0_12]
  refine ⟨fun c_1 => ?_, fun c_1 => ?_⟩
  · replace h := gw_ifp h c_1
    refine hK _ _ _ _ _ _ _ ?_
    rw [fdX3_clockAt_6]
    simp only [gt_nil, true_and, eq_self, gt_aload_n, gt_rfk, gw_nth, gt_get_r, gt_get_i, gt_get_z, gt_iload_n, gt_ink, gt_v0, gt_v1, gt_v2, gt_v3, gt_v4, gt_v5, gt_istore_n, gw_set, gt_iconst, gt_icmp, gt_goto, bkX3_clockAt_6, ka0_0, ra0_0_3, ka0_12]
    obtain ⟨r_2, e_4, h⟩ := gw_bnd h
    refine ⟨rfl, 0, 0, hcc, hss, ok_X0_clockUpon (gw_sub hS0 0 12 (by decide +kernel)) e_4 ?_⟩
    simp only [gt_nil, true_and, eq_self, gt_istore_n, gw_set, gt_iload_n, gt_ink, gw_nth, gt_iconst, gt_icmp, gt_goto, Option.toList, List.cons_append, List.nil_append, Nat.add_zero, ka0_0, ra0_0_3, ka0_12]
    refine ⟨fun c_6 => ?_, fun c_6 => ?_⟩
    · replace h := gw_ifp2 (gw_c2_ne _ _) h c_6
      refine hK _ _ _ _ _ _ _ ?_
      rw [fdX3_clockAt_24]
      simp only [gt_nil, true_and, eq_self, gt_aload_n, gt_rfk, gw_nth, gt_v0, gt_v1, gt_v2, gt_v3, gt_v4, gt_v5, gt_get_r, gt_get_i, gt_get_z, gt_iload_n, gt_ink, bkX3_clockAt_24, ka0_0, ra0_0_3, ka0_12]
      obtain ⟨r_7, e_9, h⟩ := gw_bnd h
      refine ⟨rfl, 0, 0, hcc, hss, ok_X3_inHand hS0 e_9 ?_⟩
      intro hsr_7
      have kr_7_0 : gw_kd S r_7 = 1 := (hsr_7 0 _ rfl).1
      have rr_7_0_0 : gw_rf S r_7 0 = r_7 + 1 := (hsr_7 0 _ rfl).2.2 (0, 1) (by decide)
      have kr_7_1 : gw_kd S (r_7 + 1) = 0 := (hsr_7 1 _ rfl).1
      simp only [gt_nil, true_and, eq_self, gt_get_r, gt_get_i, gt_get_z, gt_iload_n, gt_ink, gw_nth, gt_v0, gt_v1, gt_v2, gt_v3, gt_v4, gt_v5, Option.toList, List.cons_append, List.nil_append, Nat.add_zero, ka0_0, ra0_0_3, ka0_12, kr_7_0, rr_7_0_0, kr_7_1]
      obtain ⟨r_11, e_13, h⟩ := gw_bnd h
      refine ⟨rfl, 0, 0, hcc, hss, ok_X0_clockUpon (gw_sub hsr_7 0 1 (by decide +kernel)) e_13 ?_⟩
      simp only [gt_nil, true_and, eq_self, Option.toList, List.cons_append, List.nil_append, Nat.add_zero, ka0_0, ra0_0_3, ka0_12, kr_7_0, rr_7_0_0, kr_7_1]
      refine hK _ _ _ _ _ _ _ ?_
      rw [fdX3_clockAt_35]
      simp only [gt_nil, true_and, eq_self, gt_iret, gt_retz, bkX3_clockAt_35, ka0_0, ra0_0_3, ka0_12, kr_7_0, rr_7_0_0, kr_7_1]
      obtain rfl := gw_inj1 h
      exact ⟨hcc, hss, hq⟩
    · replace h := gw_ifn2 (gw_c2_ne _ _) h c_6
      refine hK _ _ _ _ _ _ _ ?_
      rw [fdX3_clockAt_35]
      simp only [gt_nil, true_and, eq_self, gt_iret, gt_retz, bkX3_clockAt_35, ka0_0, ra0_0_3, ka0_12]
      obtain rfl := gw_inj1 h
      exact ⟨hcc, hss, hq⟩
  · replace h := gw_ifn h c_1
    obtain rfl := gw_inj1 h
    exact ⟨hcc, hss, hq⟩
def F_X3_dueTime_103 (rec56 : Int32 → Int32 → Int32 → Int32 → Int32 → gw_M → Option (Int32)) (n0 : Nat) (a0 : Nat) (v2 : Int32) (v3 : Int32) (v4 : Int32) (v5 : Int32) (v6 : Int32) (μ : gw_M) : Option (Int32) := gw_let (v6 + 1) (fun (w_1 : Int32) => rec56 v2 v3 v4 v5 w_1 μ)
def F_X3_dueTime_56 (n0 : Nat) (a0 : Nat) : Nat → Int32 → Int32 → Int32 → Int32 → Int32 → gw_M → Option (Int32)
  | 0, _, _, _, _, _, _ => none
  | n + 1, v2, v3, v4, v5, v6, μ => (if 32 ≤ v6 then some v4 else (if v5 ≤ v4 then some v4 else gw_let (((v4 + v5) / (2 : Int32))) (fun (w_3 : Int32) => (F_X3_clockAt n0 a0 v2 w_3 μ).bind (fun (r_4 : Int32) => (if r_4 < v3 then gw_let ((w_3 + (1 : Int32))) (fun (w_9 : Int32) => F_X3_dueTime_103 (F_X3_dueTime_56 n0 a0 n) n0 a0 v2 v3 w_9 v5 v6 μ) else F_X3_dueTime_103 (F_X3_dueTime_56 n0 a0 n) n0 a0 v2 v3 v4 w_3 v6 μ)))))
def F_X3_dueTime (n0 : Nat) (a0 : Nat) (v1 : Int32) (μ : gw_M) : Option (Int32) := (if 0 ≤ v1 ∧ v1.toNatClampNeg < 12 then gw_let ((μ (a0 + 22) v1.toNatClampNeg)) (fun (w_2 : Int32) => (if 0 ≤ v1 ∧ v1.toNatClampNeg < 12 then gw_let ((μ (a0 + 23) v1.toNatClampNeg)) (fun (w_4 : Int32) => gw_let (((μ a0 7) + (1 : Int32))) (fun (w_5 : Int32) => (if 99999 < w_5 then some (-1) else (F_X3_clockAt n0 a0 w_2 99999 μ).bind (fun (r_7 : Int32) => (if w_4 ≤ r_7 then F_X3_dueTime_56 n0 a0 n0 w_2 w_4 w_5 99999 0 μ else some (-1)))))) else none)) else none)
theorem B_X3_dueTime_103 {l : Launch} {x : gw_C} {d : Nat} {S : gw_S} {Q : Option Value → gw_S → gw_M → Prop} {K : Nat → gw_Kt} {mc ms cc ss : Nat} (hcc : cc ≤ mc) (hss : ss ≤ ms) (hK : gw_cl l x (d + 3) mc ms bsX3_dueTime Q K) {a0 : Nat} (hS0 : gw_sh S 3 a0) {rec56 : Int32 → Int32 → Int32 → Int32 → Int32 → gw_M → Option (Int32)} (hrec56 : ∀ {v2 v3 v4 v5 v6} {u1 u7 : Value} {μ : gw_M} {r}, rec56 v2 v3 v4 v5 v6 μ = some r → Q (some (.int r)) S μ → K 56 [.ref a0, u1, .int v2, .int v3, .int v4, .int v5, .int v6, u7] [] S μ cc ss) {n0 : Nat} {v2 v3 v4 v5 v6} {u1 u7 : Value} {μ : gw_M} {r} (h : F_X3_dueTime_103 rec56 n0 a0 v2 v3 v4 v5 v6 μ = some r) (hq : Q (some (.int r)) S μ) : K 103 [.ref a0, u1, .int v2, .int v3, .int v4, .int v5, .int v6, u7] [] S μ cc ss := by
  unfold F_X3_dueTime_103 at h
  refine hK _ _ _ _ _ _ _ ?_
  rw [fdX3_dueTime_103]
  simp only [gt_nil, true_and, eq_self, gt_iinc, gt_ink, gw_nth, gw_set, gt_goto, bkX3_dueTime_103]
  obtain ⟨w_1, hw_1, h⟩ := gw_lt h
  try rw [← hw_1]
  exact hrec56 h hq
theorem B_X3_dueTime_56 {l : Launch} {x : gw_C} {d : Nat} {S : gw_S} {Q : Option Value → gw_S → gw_M → Prop} {K : Nat → gw_Kt} {mc ms cc ss : Nat} (hcc : cc ≤ mc) (hss : ss ≤ ms) (hK : gw_cl l x (d + 3) mc ms bsX3_dueTime Q K) {a0 : Nat} (hS0 : gw_sh S 3 a0) {n0 : Nat} : ∀ {n : Nat} {v2 v3 v4 v5 v6} {u1 u7 : Value} {μ : gw_M} {r}, F_X3_dueTime_56 n0 a0 n v2 v3 v4 v5 v6 μ = some r → Q (some (.int r)) S μ → K 56 [.ref a0, u1, .int v2, .int v3, .int v4, .int v5, .int v6, u7] [] S μ cc ss := by
  have ka0_0 : gw_kd S a0 = 3 := (hS0 0 _ rfl).1
  intro n
  induction n with
  | zero => intro v2 v3 v4 v5 v6 u1 u7 μ r h hq; simp [F_X3_dueTime_56] at h
  | succ n ih =>
    intro v2 v3 v4 v5 v6 u1 u7 μ r h hq
    simp only [F_X3_dueTime_56] at h
    refine hK _ _ _ _ _ _ _ ?_
    rw [fdX3_dueTime_56]
    simp only [gt_nil, true_and, eq_self, gt_iload, gt_ink, gw_nth, gt_bipush, gt_icmp, gt_iadd, gt_iconst, gt_idiv, gt_istore, gw_set, gt_aload_n, gt_rfk, gt_iload_n, gt_v0, gt_v1, gt_v2, gt_v3, gt_v4, gt_v5, gt_goto, bkX3_dueTime_56, ka0_0]
    refine ⟨fun c_1 => ?_, fun c_1 => ?_⟩
    · replace h := gw_ifp2 (gw_c2_ge _ _) h c_1
      refine hK _ _ _ _ _ _ _ ?_
      rw [fdX3_dueTime_109]
      simp only [gt_nil, true_and, eq_self, gt_iload, gt_ink, gw_nth, gt_iret, gt_retz, bkX3_dueTime_109, ka0_0]
      obtain rfl := gw_inj1 h
      exact ⟨hcc, hss, hq⟩
    · replace h := gw_ifn2 (gw_c2_ge _ _) h c_1
      refine ⟨fun c_2 => ?_, fun c_2 => ?_⟩
      · replace h := gw_ifp2 (gw_c2_ge _ _) h c_2
        refine hK _ _ _ _ _ _ _ ?_
        rw [fdX3_dueTime_109]
        simp only [gt_nil, true_and, eq_self, gt_iload, gt_ink, gw_nth, gt_iret, gt_retz, bkX3_dueTime_109, ka0_0]
        obtain rfl := gw_inj1 h
        exact ⟨hcc, hss, hq⟩
      · replace h := gw_ifn2 (gw_c2_ge _ _) h c_2
        refine ⟨by decide, ?_⟩
        obtain ⟨w_3, hw_3, h⟩ := gw_lt h
        try rw [← hw_3]
        obtain ⟨r_4, e_6, h⟩ := gw_bnd h
        refine ⟨rfl, 0, 0, hcc, hss, ok_X3_clockAt hS0 e_6 ?_⟩
        simp only [gt_nil, true_and, eq_self, gt_iload_n, gt_ink, gw_nth, gt_icmp, gt_iload, gt_istore, gw_set, gt_goto, Option.toList, List.cons_append, List.nil_append, Nat.add_zero, ka0_0]
        refine ⟨fun c_8 => ?_, fun c_8 => ?_⟩
        · replace h := gw_ifp2 (gw_c2_lt _ _) h c_8
          refine hK _ _ _ _ _ _ _ ?_
          rw [fdX3_dueTime_97]
          simp only [gt_nil, true_and, eq_self, gt_iload, gt_ink, gw_nth, gt_iconst, gt_iadd, gt_istore, gw_set, bkX3_dueTime_97, ka0_0]
          obtain ⟨w_9, hw_9, h⟩ := gw_lt h
          try rw [← hw_9]
          exact B_X3_dueTime_103 hcc hss hK hS0 ih h hq
        · replace h := gw_ifn2 (gw_c2_lt _ _) h c_8
          exact B_X3_dueTime_103 hcc hss hK hS0 ih h hq
theorem ok_X3_dueTime {l : Launch} {x : gw_C} {d : Nat} {S : gw_S} {Q : Option Value → gw_S → gw_M → Prop} {v1 : Int32} {a0 : Nat} {n0 : Nat} {μ : gw_M} {r} (hS0 : gw_sh S 3 a0) (h : F_X3_dueTime n0 a0 v1 μ = some r) (hq : Q (some (.int r)) S μ) : gw_ok l x (d + 4) sgX3_dueTime 0 0 [.ref a0, .int v1] S μ Q := by
  refine gw_ok_of stX3_dueTime (lv0 := [.ref a0, .int v1, .retAddr 0, .retAddr 0, .retAddr 0, .retAddr 0, .retAddr 0, .retAddr 0]) (Nat.le_of_ble_eq_true rfl) rfl rfl ?_
  intro K hK
  have hcc : 0 ≤ 0 := Nat.zero_le _
  have hss : 0 ≤ 0 := Nat.zero_le _
  have ka0_0 : gw_kd S a0 = 3 := (hS0 0 _ rfl).1
  have ra0_0_13 : gw_rf S a0 13 = a0 + 21 := (hS0 0 _ rfl).2.2 (13, 21) (by decide)
  have ka0_21 : gw_kd S (a0 + 21) = 9 := (hS0 21 _ rfl).1
  have ra0_21_0 : gw_rf S (a0 + 21) 0 = a0 + 22 := (hS0 21 _ rfl).2.2 (0, 22) (by decide)
  have ra0_21_1 : gw_rf S (a0 + 21) 1 = a0 + 23 := (hS0 21 _ rfl).2.2 (1, 23) (by decide)
  have ka0_22 : gw_kd S (a0 + 22) = 12 := (hS0 22 _ rfl).1
  have la0_22 : gw_ln S (a0 + 22) = 12 := (hS0 22 _ rfl).2.1
  have ka0_23 : gw_kd S (a0 + 23) = 12 := (hS0 23 _ rfl).1
  have la0_23 : gw_ln S (a0 + 23) = 12 := (hS0 23 _ rfl).2.1
  unfold F_X3_dueTime at h
  refine hK _ _ _ _ _ _ _ ?_
  rw [fdX3_dueTime_0]
  simp only [gt_nil, true_and, eq_self, gt_aload_n, gt_rfk, gw_nth, gt_get_r, gt_get_i, gt_get_z, gt_iload_n, gt_ink, gt_iaload, gt_istore_n, gw_set, gt_iconst, gt_iadd, gt_istore, gt_ldc_w, gt_iload, gt_icmp, gt_v0, gt_v1, gt_v2, gt_v3, gt_v4, gt_v5, bkX3_dueTime_0, ka0_0, ra0_0_13, ka0_21, ra0_21_0, ra0_21_1, ka0_22, la0_22, ka0_23, la0_23]
  obtain ⟨c_1, h⟩ := gw_ife h
  refine ⟨c_1, ?_⟩
  obtain ⟨w_2, hw_2, h⟩ := gw_lt h
  try rw [← hw_2]
  obtain ⟨c_3, h⟩ := gw_ife h
  refine ⟨c_3, ?_⟩
  obtain ⟨w_4, hw_4, h⟩ := gw_lt h
  try rw [← hw_4]
  obtain ⟨w_5, hw_5, h⟩ := gw_lt h
  try rw [← hw_5]
  refine ⟨fun c_6 => ?_, fun c_6 => ?_⟩
  · replace h := gw_ifp2 (gw_c2_gt _ _) h c_6
    refine hK _ _ _ _ _ _ _ ?_
    rw [fdX3_dueTime_51]
    simp only [gt_nil, true_and, eq_self, gt_iconst, gt_iret, gt_retz, bkX3_dueTime_51, ka0_0, ra0_0_13, ka0_21, ra0_21_0, ra0_21_1, ka0_22, la0_22, ka0_23, la0_23]
    obtain rfl := gw_inj1 h
    exact ⟨hcc, hss, hq⟩
  · replace h := gw_ifn2 (gw_c2_gt _ _) h c_6
    obtain ⟨r_7, e_9, h⟩ := gw_bnd h
    refine ⟨rfl, 0, 0, hcc, hss, ok_X3_clockAt hS0 e_9 ?_⟩
    simp only [gt_nil, true_and, eq_self, gt_iload_n, gt_ink, gw_nth, gt_icmp, Option.toList, List.cons_append, List.nil_append, Nat.add_zero, ka0_0, ra0_0_13, ka0_21, ra0_21_0, ra0_21_1, ka0_22, la0_22, ka0_23, la0_23]
    refine ⟨fun c_11 => ?_, fun c_11 => ?_⟩
    · replace h := gw_ifp2 (gw_c2_ge _ _) h c_11
      refine hK _ _ _ _ _ _ _ ?_
      rw [fdX3_dueTime_53]
      simp only [gt_nil, true_and, eq_self, gt_iconst, gt_istore, gw_set, bkX3_dueTime_53, ka0_0, ra0_0_13, ka0_21, ra0_21_0, ra0_21_1, ka0_22, la0_22, ka0_23, la0_23]
      exact B_X3_dueTime_56 hcc hss hK hS0 h hq
    · replace h := gw_ifn2 (gw_c2_ge _ _) h c_11
      refine hK _ _ _ _ _ _ _ ?_
      rw [fdX3_dueTime_51]
      simp only [gt_nil, true_and, eq_self, gt_iconst, gt_iret, gt_retz, bkX3_dueTime_51, ka0_0, ra0_0_13, ka0_21, ra0_21_0, ra0_21_1, ka0_22, la0_22, ka0_23, la0_23]
      obtain rfl := gw_inj1 h
      exact ⟨hcc, hss, hq⟩
def F_X9_isAhead (n0 : Nat) (a0 : Nat) (v1 : Int32) (v2 : Int32) (μ : gw_M) : Option (Int32) := (if 0 ≤ v1 ∧ v1.toNatClampNeg < 12 then (if 0 ≤ v2 ∧ v2.toNatClampNeg < 12 then (if (μ (a0 + 1) v1.toNatClampNeg) = (μ (a0 + 1) v2.toNatClampNeg) then (if 0 ≤ v1 ∧ v1.toNatClampNeg < 12 then (if 0 ≤ v2 ∧ v2.toNatClampNeg < 12 then (if (μ (a0 + 2) v1.toNatClampNeg) = (μ (a0 + 2) v2.toNatClampNeg) then (if v2 ≤ v1 then some 0 else some 1) else (if 0 ≤ v1 ∧ v1.toNatClampNeg < 12 then (if 0 ≤ v2 ∧ v2.toNatClampNeg < 12 then (if (μ (a0 + 2) v2.toNatClampNeg) ≤ (μ (a0 + 2) v1.toNatClampNeg) then some 0 else some 1) else none) else none)) else none) else none) else (if 0 ≤ v1 ∧ v1.toNatClampNeg < 12 then (if 0 ≤ v2 ∧ v2.toNatClampNeg < 12 then (if (μ (a0 + 1) v2.toNatClampNeg) ≤ (μ (a0 + 1) v1.toNatClampNeg) then some 0 else some 1) else none) else none)) else none) else none)
theorem ok_X9_isAhead {l : Launch} {x : gw_C} {d : Nat} {S : gw_S} {Q : Option Value → gw_S → gw_M → Prop} {v1 v2 : Int32} {a0 : Nat} {n0 : Nat} {μ : gw_M} {r} (hS0 : gw_sh S 9 a0) (h : F_X9_isAhead n0 a0 v1 v2 μ = some r) (hq : ((r = 0 ∨ r = 1) → Q (some (.int r)) S μ)) : gw_ok l x (d + 1) sgX9_isAhead 0 0 [.ref a0, .int v1, .int v2] S μ Q := by
  refine gw_ok_of stX9_isAhead (lv0 := [.ref a0, .int v1, .int v2]) (Nat.le_of_ble_eq_true rfl) rfl rfl ?_
  intro K hK
  have hcc : 0 ≤ 0 := Nat.zero_le _
  have hss : 0 ≤ 0 := Nat.zero_le _
  have ka0_0 : gw_kd S a0 = 9 := (hS0 0 _ rfl).1
  have ra0_0_0 : gw_rf S a0 0 = a0 + 1 := (hS0 0 _ rfl).2.2 (0, 1) (by decide)
  have ra0_0_1 : gw_rf S a0 1 = a0 + 2 := (hS0 0 _ rfl).2.2 (1, 2) (by decide)
  have ka0_1 : gw_kd S (a0 + 1) = 12 := (hS0 1 _ rfl).1
  have la0_1 : gw_ln S (a0 + 1) = 12 := (hS0 1 _ rfl).2.1
  have ka0_2 : gw_kd S (a0 + 2) = 12 := (hS0 2 _ rfl).1
  have la0_2 : gw_ln S (a0 + 2) = 12 := (hS0 2 _ rfl).2.1
  unfold F_X9_isAhead at h
  refine hK _ _ _ _ _ _ _ ?_
  rw [fdX9_isAhead_0]
  simp only [gt_nil, true_and, eq_self, gt_aload_n, gt_rfk, gw_nth, gt_get_r, gt_get_i, gt_get_z, gt_iload_n, gt_ink, gt_iaload, gt_icmp, gt_iconst, gt_goto, bkX9_isAhead_0, ka0_0, ra0_0_0, ra0_0_1, ka0_1, la0_1, ka0_2, la0_2]
  obtain ⟨c_1, h⟩ := gw_ife h
  refine ⟨c_1, ?_⟩
  obtain ⟨c_2, h⟩ := gw_ife h
  refine ⟨c_2, ?_⟩
  refine ⟨fun c_3 => ?_, fun c_3 => ?_⟩
  · replace h := gw_ifp2 (gw_c2_eq _ _) h c_3
    refine hK _ _ _ _ _ _ _ ?_
    rw [fdX9_isAhead_36]
    simp only [gt_nil, true_and, eq_self, gt_aload_n, gt_rfk, gw_nth, gt_get_r, gt_get_i, gt_get_z, gt_iload_n, gt_ink, gt_iaload, gt_icmp, gt_iconst, gt_goto, bkX9_isAhead_36, ka0_0, ra0_0_0, ra0_0_1, ka0_1, la0_1, ka0_2, la0_2]
    obtain ⟨c_4, h⟩ := gw_ife h
    refine ⟨c_4, ?_⟩
    obtain ⟨c_5, h⟩ := gw_ife h
    refine ⟨c_5, ?_⟩
    refine ⟨fun c_6 => ?_, fun c_6 => ?_⟩
    · replace h := gw_ifp2 (gw_c2_eq _ _) h c_6
      refine hK _ _ _ _ _ _ _ ?_
      rw [fdX9_isAhead_72]
      simp only [gt_nil, true_and, eq_self, gt_iload_n, gt_ink, gw_nth, gt_icmp, gt_iconst, gt_goto, bkX9_isAhead_72, ka0_0, ra0_0_0, ra0_0_1, ka0_1, la0_1, ka0_2, la0_2]
      refine ⟨fun c_7 => ?_, fun c_7 => ?_⟩
      · replace h := gw_ifp2 (gw_c2_ge _ _) h c_7
        refine hK _ _ _ _ _ _ _ ?_
        rw [fdX9_isAhead_81]
        simp only [gt_nil, true_and, eq_self, gt_iconst, bkX9_isAhead_81, ka0_0, ra0_0_0, ra0_0_1, ka0_1, la0_1, ka0_2, la0_2]
        refine hK _ _ _ _ _ _ _ ?_
        rw [fdX9_isAhead_82]
        simp only [gt_nil, true_and, eq_self, gt_iret, gt_retz, bkX9_isAhead_82, ka0_0, ra0_0_0, ra0_0_1, ka0_1, la0_1, ka0_2, la0_2]
        obtain rfl := gw_inj1 h
        exact ⟨(Or.inl rfl), hcc, hss, hq (Or.inl rfl)⟩
      · replace h := gw_ifn2 (gw_c2_ge _ _) h c_7
        refine hK _ _ _ _ _ _ _ ?_
        rw [fdX9_isAhead_82]
        simp only [gt_nil, true_and, eq_self, gt_iret, gt_retz, bkX9_isAhead_82, ka0_0, ra0_0_0, ra0_0_1, ka0_1, la0_1, ka0_2, la0_2]
        obtain rfl := gw_inj1 h
        exact ⟨(Or.inr rfl), hcc, hss, hq (Or.inr rfl)⟩
    · replace h := gw_ifn2 (gw_c2_eq _ _) h c_6
      obtain ⟨c_8, h⟩ := gw_ife h
      refine ⟨c_8, ?_⟩
      obtain ⟨c_9, h⟩ := gw_ife h
      refine ⟨c_9, ?_⟩
      refine ⟨fun c_10 => ?_, fun c_10 => ?_⟩
      · replace h := gw_ifp2 (gw_c2_ge _ _) h c_10
        refine hK _ _ _ _ _ _ _ ?_
        rw [fdX9_isAhead_70]
        simp only [gt_nil, true_and, eq_self, gt_iconst, bkX9_isAhead_70, ka0_0, ra0_0_0, ra0_0_1, ka0_1, la0_1, ka0_2, la0_2]
        refine hK _ _ _ _ _ _ _ ?_
        rw [fdX9_isAhead_71]
        simp only [gt_nil, true_and, eq_self, gt_iret, gt_retz, bkX9_isAhead_71, ka0_0, ra0_0_0, ra0_0_1, ka0_1, la0_1, ka0_2, la0_2]
        obtain rfl := gw_inj1 h
        exact ⟨(Or.inl rfl), hcc, hss, hq (Or.inl rfl)⟩
      · replace h := gw_ifn2 (gw_c2_ge _ _) h c_10
        refine hK _ _ _ _ _ _ _ ?_
        rw [fdX9_isAhead_71]
        simp only [gt_nil, true_and, eq_self, gt_iret, gt_retz, bkX9_isAhead_71, ka0_0, ra0_0_0, ra0_0_1, ka0_1, la0_1, ka0_2, la0_2]
        obtain rfl := gw_inj1 h
        exact ⟨(Or.inr rfl), hcc, hss, hq (Or.inr rfl)⟩
  · replace h := gw_ifn2 (gw_c2_eq _ _) h c_3
    obtain ⟨c_11, h⟩ := gw_ife h
    refine ⟨c_11, ?_⟩
    obtain ⟨c_12, h⟩ := gw_ife h
    refine ⟨c_12, ?_⟩
    refine ⟨fun c_13 => ?_, fun c_13 => ?_⟩
    · replace h := gw_ifp2 (gw_c2_ge _ _) h c_13
      refine hK _ _ _ _ _ _ _ ?_
      rw [fdX9_isAhead_34]
      simp only [gt_nil, true_and, eq_self, gt_iconst, bkX9_isAhead_34, ka0_0, ra0_0_0, ra0_0_1, ka0_1, la0_1, ka0_2, la0_2]
      refine hK _ _ _ _ _ _ _ ?_
      rw [fdX9_isAhead_35]
      simp only [gt_nil, true_and, eq_self, gt_iret, gt_retz, bkX9_isAhead_35, ka0_0, ra0_0_0, ra0_0_1, ka0_1, la0_1, ka0_2, la0_2]
      obtain rfl := gw_inj1 h
      exact ⟨(Or.inl rfl), hcc, hss, hq (Or.inl rfl)⟩
    · replace h := gw_ifn2 (gw_c2_ge _ _) h c_13
      refine hK _ _ _ _ _ _ _ ?_
      rw [fdX9_isAhead_35]
      simp only [gt_nil, true_and, eq_self, gt_iret, gt_retz, bkX9_isAhead_35, ka0_0, ra0_0_0, ra0_0_1, ka0_1, la0_1, ka0_2, la0_2]
      obtain rfl := gw_inj1 h
      exact ⟨(Or.inr rfl), hcc, hss, hq (Or.inr rfl)⟩
def F_X3_firstDue_67 (rec6 : Int32 → Int32 → Int32 → gw_M → Option (Int32)) (n0 : Nat) (a0 : Nat) (v1 : Int32) (v2 : Int32) (v3 : Int32) (μ : gw_M) : Option (Int32) := gw_let (v3 + 1) (fun (w_1 : Int32) => rec6 v1 v2 w_1 μ)
def F_X3_firstDue_62 (rec6 : Int32 → Int32 → Int32 → gw_M → Option (Int32)) (n0 : Nat) (a0 : Nat) (v3 : Int32) (v4 : Int32) (μ : gw_M) : Option (Int32) := F_X3_firstDue_67 rec6 n0 a0 v3 v4 v3 μ
def F_X3_firstDue_6 (n0 : Nat) (a0 : Nat) : Nat → Int32 → Int32 → Int32 → gw_M → Option (Int32)
  | 0, _, _, _, _ => none
  | n + 1, v1, v2, v3, μ => (if (μ (a0 + 21) 3) ≤ v3 then some v1 else (F_X3_dueTime n0 a0 v3 μ).bind (fun (r_2 : Int32) => (if ¬ r_2 = (-1) then (if v1 = (-1) then F_X3_firstDue_62 (F_X3_firstDue_6 n0 a0 n) n0 a0 v3 r_2 μ else (if r_2 < v2 then F_X3_firstDue_62 (F_X3_firstDue_6 n0 a0 n) n0 a0 v3 r_2 μ else (if ¬ r_2 = v2 then F_X3_firstDue_67 (F_X3_firstDue_6 n0 a0 n) n0 a0 v1 v2 v3 μ else (F_X9_isAhead n0 (a0 + 21) v3 v1 μ).bind (fun (r_10 : Int32) => (if r_10 = 0 then F_X3_firstDue_67 (F_X3_firstDue_6 n0 a0 n) n0 a0 v1 v2 v3 μ else F_X3_firstDue_62 (F_X3_firstDue_6 n0 a0 n) n0 a0 v3 r_2 μ))))) else F_X3_firstDue_67 (F_X3_firstDue_6 n0 a0 n) n0 a0 v1 v2 v3 μ)))
def F_X3_firstDue (n0 : Nat) (a0 : Nat) (μ : gw_M) : Option (Int32) := F_X3_firstDue_6 n0 a0 n0 (-1) (-1) 0 μ
theorem B_X3_firstDue_67 {l : Launch} {x : gw_C} {d : Nat} {S : gw_S} {Q : Option Value → gw_S → gw_M → Prop} {K : Nat → gw_Kt} {mc ms cc ss : Nat} (hcc : cc ≤ mc) (hss : ss ≤ ms) (hK : gw_cl l x (d + 4) mc ms bsX3_firstDue Q K) {a0 : Nat} (hS0 : gw_sh S 3 a0) {rec6 : Int32 → Int32 → Int32 → gw_M → Option (Int32)} (hrec6 : ∀ {v1 v2 v3} {u4 : Value} {μ : gw_M} {r}, rec6 v1 v2 v3 μ = some r → Q (some (.int r)) S μ → K 6 [.ref a0, .int v1, .int v2, .int v3, u4] [] S μ cc ss) {n0 : Nat} {v1 v2 v3} {u4 : Value} {μ : gw_M} {r} (h : F_X3_firstDue_67 rec6 n0 a0 v1 v2 v3 μ = some r) (hq : Q (some (.int r)) S μ) : K 67 [.ref a0, .int v1, .int v2, .int v3, u4] [] S μ cc ss := by
  unfold F_X3_firstDue_67 at h
  refine hK _ _ _ _ _ _ _ ?_
  rw [fdX3_firstDue_67]
  simp only [gt_nil, true_and, eq_self, gt_iinc, gt_ink, gw_nth, gw_set, gt_goto, bkX3_firstDue_67]
  obtain ⟨w_1, hw_1, h⟩ := gw_lt h
  try rw [← hw_1]
  exact hrec6 h hq
theorem B_X3_firstDue_62 {l : Launch} {x : gw_C} {d : Nat} {S : gw_S} {Q : Option Value → gw_S → gw_M → Prop} {K : Nat → gw_Kt} {mc ms cc ss : Nat} (hcc : cc ≤ mc) (hss : ss ≤ ms) (hK : gw_cl l x (d + 4) mc ms bsX3_firstDue Q K) {a0 : Nat} (hS0 : gw_sh S 3 a0) {rec6 : Int32 → Int32 → Int32 → gw_M → Option (Int32)} (hrec6 : ∀ {v1 v2 v3} {u4 : Value} {μ : gw_M} {r}, rec6 v1 v2 v3 μ = some r → Q (some (.int r)) S μ → K 6 [.ref a0, .int v1, .int v2, .int v3, u4] [] S μ cc ss) {n0 : Nat} {v3 v4} {u1 u2 : Value} {μ : gw_M} {r} (h : F_X3_firstDue_62 rec6 n0 a0 v3 v4 μ = some r) (hq : Q (some (.int r)) S μ) : K 62 [.ref a0, u1, u2, .int v3, .int v4] [] S μ cc ss := by
  unfold F_X3_firstDue_62 at h
  refine hK _ _ _ _ _ _ _ ?_
  rw [fdX3_firstDue_62]
  simp only [gt_nil, true_and, eq_self, gt_iload_n, gt_ink, gw_nth, gt_istore_n, gw_set, gt_iload, bkX3_firstDue_62]
  exact B_X3_firstDue_67 hcc hss hK hS0 hrec6 h hq
theorem B_X3_firstDue_6 {l : Launch} {x : gw_C} {d : Nat} {S : gw_S} {Q : Option Value → gw_S → gw_M → Prop} {K : Nat → gw_Kt} {mc ms cc ss : Nat} (hcc : cc ≤ mc) (hss : ss ≤ ms) (hK : gw_cl l x (d + 4) mc ms bsX3_firstDue Q K) {a0 : Nat} (hS0 : gw_sh S 3 a0) {n0 : Nat} : ∀ {n : Nat} {v1 v2 v3} {u4 : Value} {μ : gw_M} {r}, F_X3_firstDue_6 n0 a0 n v1 v2 v3 μ = some r → Q (some (.int r)) S μ → K 6 [.ref a0, .int v1, .int v2, .int v3, u4] [] S μ cc ss := by
  have ka0_0 : gw_kd S a0 = 3 := (hS0 0 _ rfl).1
  have ra0_0_13 : gw_rf S a0 13 = a0 + 21 := (hS0 0 _ rfl).2.2 (13, 21) (by decide)
  have ka0_21 : gw_kd S (a0 + 21) = 9 := (hS0 21 _ rfl).1
  intro n
  induction n with
  | zero => intro v1 v2 v3 u4 μ r h hq; simp [F_X3_firstDue_6] at h
  | succ n ih =>
    intro v1 v2 v3 u4 μ r h hq
    simp only [F_X3_firstDue_6] at h
    refine hK _ _ _ _ _ _ _ ?_
    rw [fdX3_firstDue_6]
    simp only [gt_nil, true_and, eq_self, gt_iload_n, gt_ink, gw_nth, gt_aload_n, gt_rfk, gt_get_r, gt_get_i, gt_get_z, gt_icmp, gt_v0, gt_v1, gt_v2, gt_v3, gt_v4, gt_v5, gt_istore, gw_set, gt_iload, gt_iconst, gt_goto, bkX3_firstDue_6, ka0_0, ra0_0_13, ka0_21]
    refine ⟨fun c_1 => ?_, fun c_1 => ?_⟩
    · replace h := gw_ifp2 (gw_c2_ge _ _) h c_1
      refine hK _ _ _ _ _ _ _ ?_
      rw [fdX3_firstDue_73]
      simp only [gt_nil, true_and, eq_self, gt_iload_n, gt_ink, gw_nth, gt_iret, gt_retz, bkX3_firstDue_73, ka0_0, ra0_0_13, ka0_21]
      obtain rfl := gw_inj1 h
      exact ⟨hcc, hss, hq⟩
    · replace h := gw_ifn2 (gw_c2_ge _ _) h c_1
      obtain ⟨r_2, e_4, h⟩ := gw_bnd h
      refine ⟨rfl, 0, 0, hcc, hss, ok_X3_dueTime hS0 e_4 ?_⟩
      simp only [gt_nil, true_and, eq_self, gt_istore, gw_set, gt_iload, gt_ink, gw_nth, gt_iconst, gt_icmp, gt_goto, Option.toList, List.cons_append, List.nil_append, Nat.add_zero, ka0_0, ra0_0_13, ka0_21]
      refine ⟨fun c_6 => ?_, fun c_6 => ?_⟩
      · replace h := gw_ifp2 (gw_c2_ne _ _) h c_6
        refine hK _ _ _ _ _ _ _ ?_
        rw [fdX3_firstDue_33]
        simp only [gt_nil, true_and, eq_self, gt_iload_n, gt_ink, gw_nth, gt_iconst, gt_icmp, gt_iload, gt_aload_n, gt_rfk, gt_get_r, gt_get_i, gt_get_z, gt_v0, gt_v1, gt_v2, gt_v3, gt_v4, gt_v5, gt_if, bkX3_firstDue_33, ka0_0, ra0_0_13, ka0_21]
        refine ⟨fun c_7 => ?_, fun c_7 => ?_⟩
        · replace h := gw_ifp2 (gw_c2_eq _ _) h c_7
          exact B_X3_firstDue_62 hcc hss hK hS0 ih h hq
        · replace h := gw_ifn2 (gw_c2_eq _ _) h c_7
          refine ⟨fun c_8 => ?_, fun c_8 => ?_⟩
          · replace h := gw_ifp2 (gw_c2_lt _ _) h c_8
            exact B_X3_firstDue_62 hcc hss hK hS0 ih h hq
          · replace h := gw_ifn2 (gw_c2_lt _ _) h c_8
            refine ⟨fun c_9 => ?_, fun c_9 => ?_⟩
            · replace h := gw_ifp2 (gw_c2_ne _ _) h c_9
              exact B_X3_firstDue_67 hcc hss hK hS0 ih h hq
            · replace h := gw_ifn2 (gw_c2_ne _ _) h c_9
              obtain ⟨r_10, e_12, h⟩ := gw_bnd h
              refine ⟨rfl, 0, 0, hcc, hss, ok_X9_isAhead (gw_sub hS0 9 21 (by decide +kernel)) e_12 ?_⟩
              intro hbr_10
              simp only [gt_nil, true_and, eq_self, gt_if, Option.toList, List.cons_append, List.nil_append, Nat.add_zero, ka0_0, ra0_0_13, ka0_21]
              refine ⟨fun c_14 => ?_, fun c_14 => ?_⟩
              · replace h := gw_ifp h c_14
                exact B_X3_firstDue_67 hcc hss hK hS0 ih h hq
              · replace h := gw_ifn h c_14
                exact B_X3_firstDue_62 hcc hss hK hS0 ih h hq
      · replace h := gw_ifn2 (gw_c2_ne _ _) h c_6
        exact B_X3_firstDue_67 hcc hss hK hS0 ih h hq
theorem ok_X3_firstDue {l : Launch} {x : gw_C} {d : Nat} {S : gw_S} {Q : Option Value → gw_S → gw_M → Prop} {a0 : Nat} {n0 : Nat} {μ : gw_M} {r} (hS0 : gw_sh S 3 a0) (h : F_X3_firstDue n0 a0 μ = some r) (hq : Q (some (.int r)) S μ) : gw_ok l x (d + 5) sgX3_firstDue 0 0 [.ref a0] S μ Q := by
  refine gw_ok_of stX3_firstDue (lv0 := [.ref a0, .retAddr 0, .retAddr 0, .retAddr 0, .retAddr 0]) (Nat.le_of_ble_eq_true rfl) rfl rfl ?_
  intro K hK
  have hcc : 0 ≤ 0 := Nat.zero_le _
  have hss : 0 ≤ 0 := Nat.zero_le _
  unfold F_X3_firstDue at h
  refine hK _ _ _ _ _ _ _ ?_
  rw [fdX3_firstDue_0]
  simp only [gt_nil, true_and, eq_self, gt_iconst, gt_istore_n, gw_set, bkX3_firstDue_0]
  exact B_X3_firstDue_6 hcc hss hK hS0 h hq
def F_X9_removeAt (n0 : Nat) (a0 : Nat) (v1 : Int32) (μ : gw_M) : Option (gw_M) := gw_let ((((μ a0 3) - (1 : Int32)) - v1)) (fun (w_1 : Int32) => (if 0 ≤ ((v1 + (1 : Int32)) : Int32) ∧ 0 ≤ (v1 : Int32) ∧ 0 ≤ (w_1 : Int32) ∧ (v1 + (1 : Int32)).toNatClampNeg + w_1.toNatClampNeg ≤ 12 ∧ v1.toNatClampNeg + w_1.toNatClampNeg ≤ 12 then gw_let (gw_cpy μ (a0 + 1) (a0 + 1) (v1 + (1 : Int32)).toNatClampNeg v1.toNatClampNeg w_1.toNatClampNeg) (fun (μ_2 : gw_M) => (if 0 ≤ ((v1 + (1 : Int32)) : Int32) ∧ 0 ≤ (v1 : Int32) ∧ 0 ≤ (w_1 : Int32) ∧ (v1 + (1 : Int32)).toNatClampNeg + w_1.toNatClampNeg ≤ 12 ∧ v1.toNatClampNeg + w_1.toNatClampNeg ≤ 12 then gw_let (gw_cpy μ_2 (a0 + 2) (a0 + 2) (v1 + (1 : Int32)).toNatClampNeg v1.toNatClampNeg w_1.toNatClampNeg) (fun (μ_4 : gw_M) => (if 0 ≤ ((v1 + (1 : Int32)) : Int32) ∧ 0 ≤ (v1 : Int32) ∧ 0 ≤ (w_1 : Int32) ∧ (v1 + (1 : Int32)).toNatClampNeg + w_1.toNatClampNeg ≤ 12 ∧ v1.toNatClampNeg + w_1.toNatClampNeg ≤ 12 then gw_let (gw_cpy μ_4 (a0 + 3) (a0 + 3) (v1 + (1 : Int32)).toNatClampNeg v1.toNatClampNeg w_1.toNatClampNeg) (fun (μ_6 : gw_M) => gw_let (gw_up μ_6 a0 3 ((μ_6 a0 3) - (1 : Int32))) (fun (μ_8 : gw_M) => some μ_8)) else none)) else none)) else none))
theorem ok_X9_removeAt {l : Launch} {x : gw_C} {d : Nat} {S : gw_S} {Q : Option Value → gw_S → gw_M → Prop} {v1 : Int32} {a0 : Nat} {n0 : Nat} {μ : gw_M} {μ'} (hS0 : gw_sh S 9 a0) (h : F_X9_removeAt n0 a0 v1 μ = some μ') (hq : Q none S μ') : gw_ok l x (d + 1) sgX9_removeAt 0 0 [.ref a0, .int v1] S μ Q := by
  refine gw_ok_of stX9_removeAt (lv0 := [.ref a0, .int v1, .retAddr 0]) (Nat.le_of_ble_eq_true rfl) rfl rfl ?_
  intro K hK
  have hcc : 0 ≤ 0 := Nat.zero_le _
  have hss : 0 ≤ 0 := Nat.zero_le _
  have ka0_0 : gw_kd S a0 = 9 := (hS0 0 _ rfl).1
  have ra0_0_0 : gw_rf S a0 0 = a0 + 1 := (hS0 0 _ rfl).2.2 (0, 1) (by decide)
  have ra0_0_1 : gw_rf S a0 1 = a0 + 2 := (hS0 0 _ rfl).2.2 (1, 2) (by decide)
  have ra0_0_2 : gw_rf S a0 2 = a0 + 3 := (hS0 0 _ rfl).2.2 (2, 3) (by decide)
  have ka0_1 : gw_kd S (a0 + 1) = 12 := (hS0 1 _ rfl).1
  have la0_1 : gw_ln S (a0 + 1) = 12 := (hS0 1 _ rfl).2.1
  have ka0_2 : gw_kd S (a0 + 2) = 12 := (hS0 2 _ rfl).1
  have la0_2 : gw_ln S (a0 + 2) = 12 := (hS0 2 _ rfl).2.1
  have ka0_3 : gw_kd S (a0 + 3) = 12 := (hS0 3 _ rfl).1
  have la0_3 : gw_ln S (a0 + 3) = 12 := (hS0 3 _ rfl).2.1
  unfold F_X9_removeAt at h
  refine hK _ _ _ _ _ _ _ ?_
  rw [fdX9_removeAt_0]
  simp only [gt_nil, true_and, eq_self, gt_aload_n, gt_rfk, gw_nth, gt_get_r, gt_get_i, gt_get_z, gt_iconst, gt_isub, gt_iload_n, gt_ink, gt_istore_n, gw_set, gt_iadd, gt_s1_0, gt_s2_0, gt_s3_0, gt_s4_0, gt_s1_1, gt_s2_1, gt_s3_1, gt_s4_1, gt_acpy, gt_dup_i, gt_dup_r, gt_put_i, gt_putz, gt_vret, bkX9_removeAt_0, ka0_0, ra0_0_0, ra0_0_1, ra0_0_2, ka0_1, la0_1, ka0_2, la0_2, ka0_3, la0_3]
  obtain ⟨w_1, hw_1, h⟩ := gw_lt h
  try rw [← hw_1]
  obtain ⟨c_3, h⟩ := gw_ife h
  refine ⟨c_3.1, c_3.2.1, c_3.2.2.1, c_3.2.2.2.1, c_3.2.2.2.2, ?_⟩
  obtain ⟨μ_2, hμ_2, h⟩ := gw_lt h
  try rw [← hμ_2]
  obtain ⟨c_5, h⟩ := gw_ife h
  refine ⟨c_5.1, c_5.2.1, c_5.2.2.1, c_5.2.2.2.1, c_5.2.2.2.2, ?_⟩
  obtain ⟨μ_4, hμ_4, h⟩ := gw_lt h
  try rw [← hμ_4]
  obtain ⟨c_7, h⟩ := gw_ife h
  refine ⟨c_7.1, c_7.2.1, c_7.2.2.1, c_7.2.2.2.1, c_7.2.2.2.2, ?_⟩
  obtain ⟨μ_6, hμ_6, h⟩ := gw_lt h
  try rw [← hμ_6]
  obtain ⟨μ_8, hμ_8, h⟩ := gw_lt h
  try rw [← hμ_8]
  obtain rfl := gw_inj1 h
  exact ⟨hcc, hss, hq⟩
def F_X3_goOff (n0 : Nat) (a0 : Nat) (v1 : Int32) (μ : gw_M) : Option (gw_M) := (if 0 ≤ v1 ∧ v1.toNatClampNeg < 12 then gw_let ((μ (a0 + 22) v1.toNatClampNeg)) (fun (w_2 : Int32) => (if 0 ≤ v1 ∧ v1.toNatClampNeg < 12 then gw_let ((μ (a0 + 24) v1.toNatClampNeg)) (fun (w_4 : Int32) => (F_X9_removeAt n0 (a0 + 21) v1 μ).bind (fun (μ_6 : gw_M) => (if ¬ w_2 = 0 then (F_X3_guest n0 a0 w_2 μ_6).bind (fun (r_10 : Nat) => (F_X0_await n0 r_10 w_4 (μ_6 a0 7) μ_6).bind (fun (μ_15 : gw_M) => some μ_15)) else (F_X3_hostSees n0 a0 7 w_4 μ_6).bind (fun (μ_19 : gw_M) => some μ_19)))) else none)) else none)
theorem ok_X3_goOff {l : Launch} {x : gw_C} {d : Nat} {S : gw_S} {Q : Option Value → gw_S → gw_M → Prop} {v1 : Int32} {a0 : Nat} {n0 : Nat} {μ : gw_M} {μ'} (hS0 : gw_sh S 3 a0) (h : F_X3_goOff n0 a0 v1 μ = some μ') (hq : Q none S μ') : gw_ok l x (d + 4) sgX3_goOff 0 0 [.ref a0, .int v1] S μ Q := by
  refine gw_ok_of stX3_goOff (lv0 := [.ref a0, .int v1, .retAddr 0, .retAddr 0]) (Nat.le_of_ble_eq_true rfl) rfl rfl ?_
  intro K hK
  have hcc : 0 ≤ 0 := Nat.zero_le _
  have hss : 0 ≤ 0 := Nat.zero_le _
  have ka0_0 : gw_kd S a0 = 3 := (hS0 0 _ rfl).1
  have ra0_0_13 : gw_rf S a0 13 = a0 + 21 := (hS0 0 _ rfl).2.2 (13, 21) (by decide)
  have ka0_21 : gw_kd S (a0 + 21) = 9 := (hS0 21 _ rfl).1
  have ra0_21_0 : gw_rf S (a0 + 21) 0 = a0 + 22 := (hS0 21 _ rfl).2.2 (0, 22) (by decide)
  have ra0_21_2 : gw_rf S (a0 + 21) 2 = a0 + 24 := (hS0 21 _ rfl).2.2 (2, 24) (by decide)
  have ka0_22 : gw_kd S (a0 + 22) = 12 := (hS0 22 _ rfl).1
  have la0_22 : gw_ln S (a0 + 22) = 12 := (hS0 22 _ rfl).2.1
  have ka0_24 : gw_kd S (a0 + 24) = 12 := (hS0 24 _ rfl).1
  have la0_24 : gw_ln S (a0 + 24) = 12 := (hS0 24 _ rfl).2.1
  unfold F_X3_goOff at h
  refine hK _ _ _ _ _ _ _ ?_
  rw [fdX3_goOff_0]
  simp only [gt_nil, true_and, eq_self, gt_aload_n, gt_rfk, gw_nth, gt_get_r, gt_get_i, gt_get_z, gt_iload_n, gt_ink, gt_iaload, gt_istore_n, gw_set, gt_v0, gt_v1, gt_v2, gt_v3, gt_v4, gt_v5, gt_if, gt_bipush, gt_goto, bkX3_goOff_0, ka0_0, ra0_0_13, ka0_21, ra0_21_0, ra0_21_2, ka0_22, la0_22, ka0_24, la0_24]
  obtain ⟨c_1, h⟩ := gw_ife h
  refine ⟨c_1, ?_⟩
  obtain ⟨w_2, hw_2, h⟩ := gw_lt h
  try rw [← hw_2]
  obtain ⟨c_3, h⟩ := gw_ife h
  refine ⟨c_3, ?_⟩
  obtain ⟨w_4, hw_4, h⟩ := gw_lt h
  try rw [← hw_4]
  obtain ⟨μ_6, e_7, h⟩ := gw_bnd h
  refine ⟨rfl, 0, 0, hcc, hss, ok_X9_removeAt (gw_sub hS0 9 21 (by decide +kernel)) e_7 ?_⟩
  simp only [gt_nil, true_and, eq_self, gt_iload_n, gt_ink, gw_nth, gt_if, gt_aload_n, gt_rfk, gt_bipush, gt_v0, gt_v1, gt_v2, gt_v3, gt_v4, gt_v5, gt_goto, Option.toList, List.cons_append, List.nil_append, Nat.add_zero, ka0_0, ra0_0_13, ka0_21, ra0_21_0, ra0_21_2, ka0_22, la0_22, ka0_24, la0_24]
  refine ⟨fun c_9 => ?_, fun c_9 => ?_⟩
  · replace h := gw_ifp h c_9
    refine hK _ _ _ _ _ _ _ ?_
    rw [fdX3_goOff_42]
    simp only [gt_nil, true_and, eq_self, gt_aload_n, gt_rfk, gw_nth, gt_iload_n, gt_ink, gt_v0, gt_v1, gt_v2, gt_v3, gt_v4, gt_v5, gt_get_r, gt_get_i, gt_get_z, bkX3_goOff_42, ka0_0, ra0_0_13, ka0_21, ra0_21_0, ra0_21_2, ka0_22, la0_22, ka0_24, la0_24]
    obtain ⟨r_10, e_12, h⟩ := gw_bnd h
    refine ⟨rfl, 0, 0, hcc, hss, ok_X3_guest hS0 e_12 ?_⟩
    intro hsr_10
    have kr_10_0 : gw_kd S r_10 = 0 := (hsr_10 0 _ rfl).1
    simp only [gt_nil, true_and, eq_self, gt_iload_n, gt_ink, gw_nth, gt_aload_n, gt_rfk, gt_get_r, gt_get_i, gt_get_z, gt_v0, gt_v1, gt_v2, gt_v3, gt_v4, gt_v5, Option.toList, List.cons_append, List.nil_append, Nat.add_zero, ka0_0, ra0_0_13, ka0_21, ra0_21_0, ra0_21_2, ka0_22, la0_22, ka0_24, la0_24, kr_10_0]
    obtain ⟨μ_15, e_16, h⟩ := gw_bnd h
    refine ⟨rfl, 0, 0, hcc, hss, ok_X0_await hsr_10 e_16 ?_⟩
    simp only [gt_nil, true_and, eq_self, Option.toList, List.cons_append, List.nil_append, Nat.add_zero, ka0_0, ra0_0_13, ka0_21, ra0_21_0, ra0_21_2, ka0_22, la0_22, ka0_24, la0_24, kr_10_0]
    refine hK _ _ _ _ _ _ _ ?_
    rw [fdX3_goOff_55]
    simp only [gt_nil, true_and, eq_self, gt_vret, bkX3_goOff_55, ka0_0, ra0_0_13, ka0_21, ra0_21_0, ra0_21_2, ka0_22, la0_22, ka0_24, la0_24, kr_10_0]
    obtain rfl := gw_inj1 h
    exact ⟨hcc, hss, hq⟩
  · replace h := gw_ifn h c_9
    obtain ⟨μ_19, e_20, h⟩ := gw_bnd h
    refine ⟨rfl, 0, 0, hcc, hss, ok_X3_hostSees hS0 e_20 ?_⟩
    simp only [gt_nil, true_and, eq_self, gt_goto, Option.toList, List.cons_append, List.nil_append, Nat.add_zero, ka0_0, ra0_0_13, ka0_21, ra0_21_0, ra0_21_2, ka0_22, la0_22, ka0_24, la0_24]
    refine hK _ _ _ _ _ _ _ ?_
    rw [fdX3_goOff_55]
    simp only [gt_nil, true_and, eq_self, gt_vret, bkX3_goOff_55, ka0_0, ra0_0_13, ka0_21, ra0_21_0, ra0_21_2, ka0_22, la0_22, ka0_24, la0_24]
    obtain rfl := gw_inj1 h
    exact ⟨hcc, hss, hq⟩
def F_X3_nextDueNow_73 (rec4 : Int32 → Int32 → gw_M → Option (Int32)) (n0 : Nat) (a0 : Nat) (v1 : Int32) (v2 : Int32) (μ : gw_M) : Option (Int32) := gw_let (v2 + 1) (fun (w_1 : Int32) => rec4 v1 w_1 μ)
def F_X3_nextDueNow_71 (rec4 : Int32 → Int32 → gw_M → Option (Int32)) (n0 : Nat) (a0 : Nat) (v2 : Int32) (μ : gw_M) : Option (Int32) := F_X3_nextDueNow_73 rec4 n0 a0 v2 v2 μ
def F_X3_nextDueNow_49 (rec4 : Int32 → Int32 → gw_M → Option (Int32)) (n0 : Nat) (a0 : Nat) (v1 : Int32) (v2 : Int32) (s0 : Int32) (μ : gw_M) : Option (Int32) := (if s0 = 0 then F_X3_nextDueNow_73 rec4 n0 a0 v1 v2 μ else (if v1 = (-1) then F_X3_nextDueNow_71 rec4 n0 a0 v2 μ else (F_X9_isAhead n0 (a0 + 21) v2 v1 μ).bind (fun (r_3 : Int32) => (if r_3 = 0 then F_X3_nextDueNow_73 rec4 n0 a0 v1 v2 μ else F_X3_nextDueNow_71 rec4 n0 a0 v2 μ))))
def F_X3_nextDueNow_4 (n0 : Nat) (a0 : Nat) : Nat → Int32 → Int32 → gw_M → Option (Int32)
  | 0, _, _, _ => none
  | n + 1, v1, v2, μ => (if (μ (a0 + 21) 3) ≤ v2 then some v1 else (if 0 ≤ v2 ∧ v2.toNatClampNeg < 12 then (F_X3_clockAt n0 a0 (μ (a0 + 22) v2.toNatClampNeg) (μ a0 7) μ).bind (fun (r_3 : Int32) => (if 0 ≤ v2 ∧ v2.toNatClampNeg < 12 then (if r_3 < (μ (a0 + 23) v2.toNatClampNeg) then F_X3_nextDueNow_49 (F_X3_nextDueNow_4 n0 a0 n) n0 a0 v1 v2 0 μ else F_X3_nextDueNow_49 (F_X3_nextDueNow_4 n0 a0 n) n0 a0 v1 v2 1 μ) else none)) else none))
def F_X3_nextDueNow (n0 : Nat) (a0 : Nat) (μ : gw_M) : Option (Int32) := F_X3_nextDueNow_4 n0 a0 n0 (-1) 0 μ
theorem B_X3_nextDueNow_73 {l : Launch} {x : gw_C} {d : Nat} {S : gw_S} {Q : Option Value → gw_S → gw_M → Prop} {K : Nat → gw_Kt} {mc ms cc ss : Nat} (hcc : cc ≤ mc) (hss : ss ≤ ms) (hK : gw_cl l x (d + 3) mc ms bsX3_nextDueNow Q K) {a0 : Nat} (hS0 : gw_sh S 3 a0) {rec4 : Int32 → Int32 → gw_M → Option (Int32)} (hrec4 : ∀ {v1 v2} {u3 : Value} {μ : gw_M} {r}, rec4 v1 v2 μ = some r → Q (some (.int r)) S μ → K 4 [.ref a0, .int v1, .int v2, u3] [] S μ cc ss) {n0 : Nat} {v1 v2} {u3 : Value} {μ : gw_M} {r} (h : F_X3_nextDueNow_73 rec4 n0 a0 v1 v2 μ = some r) (hq : Q (some (.int r)) S μ) : K 73 [.ref a0, .int v1, .int v2, u3] [] S μ cc ss := by
  unfold F_X3_nextDueNow_73 at h
  refine hK _ _ _ _ _ _ _ ?_
  rw [fdX3_nextDueNow_73]
  simp only [gt_nil, true_and, eq_self, gt_iinc, gt_ink, gw_nth, gw_set, gt_goto, bkX3_nextDueNow_73]
  obtain ⟨w_1, hw_1, h⟩ := gw_lt h
  try rw [← hw_1]
  exact hrec4 h hq
theorem B_X3_nextDueNow_71 {l : Launch} {x : gw_C} {d : Nat} {S : gw_S} {Q : Option Value → gw_S → gw_M → Prop} {K : Nat → gw_Kt} {mc ms cc ss : Nat} (hcc : cc ≤ mc) (hss : ss ≤ ms) (hK : gw_cl l x (d + 3) mc ms bsX3_nextDueNow Q K) {a0 : Nat} (hS0 : gw_sh S 3 a0) {rec4 : Int32 → Int32 → gw_M → Option (Int32)} (hrec4 : ∀ {v1 v2} {u3 : Value} {μ : gw_M} {r}, rec4 v1 v2 μ = some r → Q (some (.int r)) S μ → K 4 [.ref a0, .int v1, .int v2, u3] [] S μ cc ss) {n0 : Nat} {v2} {u1 u3 : Value} {μ : gw_M} {r} (h : F_X3_nextDueNow_71 rec4 n0 a0 v2 μ = some r) (hq : Q (some (.int r)) S μ) : K 71 [.ref a0, u1, .int v2, u3] [] S μ cc ss := by
  unfold F_X3_nextDueNow_71 at h
  refine hK _ _ _ _ _ _ _ ?_
  rw [fdX3_nextDueNow_71]
  simp only [gt_nil, true_and, eq_self, gt_iload_n, gt_ink, gw_nth, gt_istore_n, gw_set, bkX3_nextDueNow_71]
  exact B_X3_nextDueNow_73 hcc hss hK hS0 hrec4 h hq
theorem B_X3_nextDueNow_49 {l : Launch} {x : gw_C} {d : Nat} {S : gw_S} {Q : Option Value → gw_S → gw_M → Prop} {K : Nat → gw_Kt} {mc ms cc ss : Nat} (hcc : cc ≤ mc) (hss : ss ≤ ms) (hK : gw_cl l x (d + 3) mc ms bsX3_nextDueNow Q K) {a0 : Nat} (hS0 : gw_sh S 3 a0) {rec4 : Int32 → Int32 → gw_M → Option (Int32)} (hrec4 : ∀ {v1 v2} {u3 : Value} {μ : gw_M} {r}, rec4 v1 v2 μ = some r → Q (some (.int r)) S μ → K 4 [.ref a0, .int v1, .int v2, u3] [] S μ cc ss) {n0 : Nat} {v1 v2 s0} {u3 : Value} {μ : gw_M} {r} (h : F_X3_nextDueNow_49 rec4 n0 a0 v1 v2 s0 μ = some r) (hq : Q (some (.int r)) S μ) : K 49 [.ref a0, .int v1, .int v2, u3] [.int s0] S μ cc ss := by
  have ka0_0 : gw_kd S a0 = 3 := (hS0 0 _ rfl).1
  have ra0_0_13 : gw_rf S a0 13 = a0 + 21 := (hS0 0 _ rfl).2.2 (13, 21) (by decide)
  have ka0_21 : gw_kd S (a0 + 21) = 9 := (hS0 21 _ rfl).1
  unfold F_X3_nextDueNow_49 at h
  refine hK _ _ _ _ _ _ _ ?_
  rw [fdX3_nextDueNow_49]
  simp only [gt_nil, true_and, eq_self, gt_istore_n, gw_set, gt_iload_n, gt_ink, gw_nth, gt_if, gt_iconst, gt_icmp, gt_aload_n, gt_rfk, gt_get_r, gt_get_i, gt_get_z, gt_v0, gt_v1, gt_v2, gt_v3, gt_v4, gt_v5, bkX3_nextDueNow_49, ka0_0, ra0_0_13, ka0_21]
  refine ⟨fun c_1 => ?_, fun c_1 => ?_⟩
  · replace h := gw_ifp h c_1
    exact B_X3_nextDueNow_73 hcc hss hK hS0 hrec4 h hq
  · replace h := gw_ifn h c_1
    refine ⟨fun c_2 => ?_, fun c_2 => ?_⟩
    · replace h := gw_ifp2 (gw_c2_eq _ _) h c_2
      exact B_X3_nextDueNow_71 hcc hss hK hS0 hrec4 h hq
    · replace h := gw_ifn2 (gw_c2_eq _ _) h c_2
      obtain ⟨r_3, e_5, h⟩ := gw_bnd h
      refine ⟨rfl, 0, 0, hcc, hss, ok_X9_isAhead (gw_sub hS0 9 21 (by decide +kernel)) e_5 ?_⟩
      intro hbr_3
      simp only [gt_nil, true_and, eq_self, gt_if, Option.toList, List.cons_append, List.nil_append, Nat.add_zero, ka0_0, ra0_0_13, ka0_21]
      refine ⟨fun c_7 => ?_, fun c_7 => ?_⟩
      · replace h := gw_ifp h c_7
        exact B_X3_nextDueNow_73 hcc hss hK hS0 hrec4 h hq
      · replace h := gw_ifn h c_7
        exact B_X3_nextDueNow_71 hcc hss hK hS0 hrec4 h hq
theorem B_X3_nextDueNow_4 {l : Launch} {x : gw_C} {d : Nat} {S : gw_S} {Q : Option Value → gw_S → gw_M → Prop} {K : Nat → gw_Kt} {mc ms cc ss : Nat} (hcc : cc ≤ mc) (hss : ss ≤ ms) (hK : gw_cl l x (d + 3) mc ms bsX3_nextDueNow Q K) {a0 : Nat} (hS0 : gw_sh S 3 a0) {n0 : Nat} : ∀ {n : Nat} {v1 v2} {u3 : Value} {μ : gw_M} {r}, F_X3_nextDueNow_4 n0 a0 n v1 v2 μ = some r → Q (some (.int r)) S μ → K 4 [.ref a0, .int v1, .int v2, u3] [] S μ cc ss := by
  have ka0_0 : gw_kd S a0 = 3 := (hS0 0 _ rfl).1
  have ra0_0_13 : gw_rf S a0 13 = a0 + 21 := (hS0 0 _ rfl).2.2 (13, 21) (by decide)
  have ka0_21 : gw_kd S (a0 + 21) = 9 := (hS0 21 _ rfl).1
  have ra0_21_0 : gw_rf S (a0 + 21) 0 = a0 + 22 := (hS0 21 _ rfl).2.2 (0, 22) (by decide)
  have ra0_21_1 : gw_rf S (a0 + 21) 1 = a0 + 23 := (hS0 21 _ rfl).2.2 (1, 23) (by decide)
  have ka0_22 : gw_kd S (a0 + 22) = 12 := (hS0 22 _ rfl).1
  have la0_22 : gw_ln S (a0 + 22) = 12 := (hS0 22 _ rfl).2.1
  have ka0_23 : gw_kd S (a0 + 23) = 12 := (hS0 23 _ rfl).1
  have la0_23 : gw_ln S (a0 + 23) = 12 := (hS0 23 _ rfl).2.1
  intro n
  induction n with
  | zero => intro v1 v2 u3 μ r h hq; simp [F_X3_nextDueNow_4] at h
  | succ n ih =>
    intro v1 v2 u3 μ r h hq
    simp only [F_X3_nextDueNow_4] at h
    refine hK _ _ _ _ _ _ _ ?_
    rw [fdX3_nextDueNow_4]
    simp only [gt_nil, true_and, eq_self, gt_iload_n, gt_ink, gw_nth, gt_aload_n, gt_rfk, gt_get_r, gt_get_i, gt_get_z, gt_icmp, gt_iaload, gt_v0, gt_v1, gt_v2, gt_v3, gt_v4, gt_v5, gt_iconst, gt_goto, bkX3_nextDueNow_4, ka0_0, ra0_0_13, ka0_21, ra0_21_0, ra0_21_1, ka0_22, la0_22, ka0_23, la0_23]
    refine ⟨fun c_1 => ?_, fun c_1 => ?_⟩
    · replace h := gw_ifp2 (gw_c2_ge _ _) h c_1
      refine hK _ _ _ _ _ _ _ ?_
      rw [fdX3_nextDueNow_79]
      simp only [gt_nil, true_and, eq_self, gt_iload_n, gt_ink, gw_nth, gt_iret, gt_retz, bkX3_nextDueNow_79, ka0_0, ra0_0_13, ka0_21, ra0_21_0, ra0_21_1, ka0_22, la0_22, ka0_23, la0_23]
      obtain rfl := gw_inj1 h
      exact ⟨hcc, hss, hq⟩
    · replace h := gw_ifn2 (gw_c2_ge _ _) h c_1
      obtain ⟨c_2, h⟩ := gw_ife h
      refine ⟨c_2, ?_⟩
      obtain ⟨r_3, e_5, h⟩ := gw_bnd h
      refine ⟨rfl, 0, 0, hcc, hss, ok_X3_clockAt hS0 e_5 ?_⟩
      simp only [gt_nil, true_and, eq_self, gt_aload_n, gt_rfk, gw_nth, gt_get_r, gt_get_i, gt_get_z, gt_iload_n, gt_ink, gt_iaload, gt_icmp, gt_iconst, gt_goto, Option.toList, List.cons_append, List.nil_append, Nat.add_zero, ka0_0, ra0_0_13, ka0_21, ra0_21_0, ra0_21_1, ka0_22, la0_22, ka0_23, la0_23]
      obtain ⟨c_7, h⟩ := gw_ife h
      refine ⟨c_7, ?_⟩
      refine ⟨fun c_8 => ?_, fun c_8 => ?_⟩
      · replace h := gw_ifp2 (gw_c2_lt _ _) h c_8
        refine hK _ _ _ _ _ _ _ ?_
        rw [fdX3_nextDueNow_48]
        simp only [gt_nil, true_and, eq_self, gt_iconst, bkX3_nextDueNow_48, ka0_0, ra0_0_13, ka0_21, ra0_21_0, ra0_21_1, ka0_22, la0_22, ka0_23, la0_23]
        exact B_X3_nextDueNow_49 hcc hss hK hS0 ih h hq
      · replace h := gw_ifn2 (gw_c2_lt _ _) h c_8
        exact B_X3_nextDueNow_49 hcc hss hK hS0 ih h hq
theorem ok_X3_nextDueNow {l : Launch} {x : gw_C} {d : Nat} {S : gw_S} {Q : Option Value → gw_S → gw_M → Prop} {a0 : Nat} {n0 : Nat} {μ : gw_M} {r} (hS0 : gw_sh S 3 a0) (h : F_X3_nextDueNow n0 a0 μ = some r) (hq : Q (some (.int r)) S μ) : gw_ok l x (d + 4) sgX3_nextDueNow 0 0 [.ref a0] S μ Q := by
  refine gw_ok_of stX3_nextDueNow (lv0 := [.ref a0, .retAddr 0, .retAddr 0, .retAddr 0]) (Nat.le_of_ble_eq_true rfl) rfl rfl ?_
  intro K hK
  have hcc : 0 ≤ 0 := Nat.zero_le _
  have hss : 0 ≤ 0 := Nat.zero_le _
  unfold F_X3_nextDueNow at h
  refine hK _ _ _ _ _ _ _ ?_
  rw [fdX3_nextDueNow_0]
  simp only [gt_nil, true_and, eq_self, gt_iconst, gt_istore_n, gw_set, bkX3_nextDueNow_0]
  exact B_X3_nextDueNow_4 hcc hss hK hS0 h hq
def F_X3_timeGoesOn_77 (n0 : Nat) (a0 : Nat) (v1 : Int32) (μ : gw_M) : Option (Int32 × gw_M) := (if ¬ (μ a0 6) = 2 then some (v1, μ) else (if (μ a0 10) = 0 then some (v1, μ) else gw_let (gw_up μ a0 11 ((μ a0 11) - (1 : Int32))) (fun (μ_3 : gw_M) => (if 0 < (μ_3 a0 11) then some (v1, μ_3) else (F_X3_dealToOuter n0 a0 8 (μ_3 a0 10) μ_3).bind (fun (μ_6 : gw_M) => some (v1, μ_6))))))
def F_X3_timeGoesOn_44 (n0 : Nat) (a0 : Nat) : Nat → Int32 → Int32 → gw_M → Option (Int32 × gw_M)
  | 0, _, _, _ => none
  | n + 1, v1, v2, μ => (if 12 ≤ v2 then F_X3_timeGoesOn_77 n0 a0 v1 μ else (F_X3_nextDueNow n0 a0 μ).bind (fun (r_2 : Int32) => (if ¬ r_2 = (-1) then (F_X3_goOff n0 a0 r_2 μ).bind (fun (μ_8 : gw_M) => gw_let (v1 + 1) (fun (w_11 : Int32) => gw_let (v2 + 1) (fun (w_12 : Int32) => F_X3_timeGoesOn_44 n0 a0 n w_11 w_12 μ_8))) else F_X3_timeGoesOn_77 n0 a0 v1 μ)))
def F_X3_timeGoesOn_35 (n0 : Nat) (a0 : Nat) (s1 : Int32) (μ : gw_M) : Option (Int32 × gw_M) := (if 0 ≤ s1 ∧ s1.toNatClampNeg < 4 then (if 0 ≤ s1 ∧ s1.toNatClampNeg < 4 then gw_let (gw_up μ (a0 + 33) s1.toNatClampNeg ((μ (a0 + 33) s1.toNatClampNeg) + (1 : Int32))) (fun (μ_3 : gw_M) => F_X3_timeGoesOn_44 n0 a0 n0 0 0 μ_3) else none) else none)
def F_X3_timeGoesOn (n0 : Nat) (a0 : Nat) (μ : gw_M) : Option (Int32 × gw_M) := gw_let (gw_up μ a0 7 ((μ a0 7) + (1 : Int32))) (fun (μ_1 : gw_M) => (if ¬ (μ_1 a0 6) = 1 then F_X3_timeGoesOn_35 n0 a0 ((1 : Int32) + (μ_1 a0 5)) μ_1 else F_X3_timeGoesOn_35 n0 a0 0 μ_1))
theorem B_X3_timeGoesOn_77 {l : Launch} {x : gw_C} {d : Nat} {S : gw_S} {Q : Option Value → gw_S → gw_M → Prop} {K : Nat → gw_Kt} {mc ms cc ss : Nat} (hcc : cc ≤ mc) (hss : ss ≤ ms) (hK : gw_cl l x (d + 4) mc ms bsX3_timeGoesOn Q K) {a0 : Nat} (hS0 : gw_sh S 3 a0) {n0 : Nat} {v1} {u2 u3 : Value} {μ : gw_M} {r μ'} (h : F_X3_timeGoesOn_77 n0 a0 v1 μ = some (r, μ')) (hq : Q (some (.int r)) S μ') : K 77 [.ref a0, .int v1, u2, u3] [] S μ cc ss := by
  have ka0_0 : gw_kd S a0 = 3 := (hS0 0 _ rfl).1
  unfold F_X3_timeGoesOn_77 at h
  refine hK _ _ _ _ _ _ _ ?_
  rw [fdX3_timeGoesOn_77]
  simp only [gt_nil, true_and, eq_self, gt_aload_n, gt_rfk, gw_nth, gt_get_r, gt_get_i, gt_get_z, gt_iconst, gt_icmp, gt_if, gt_dup_i, gt_dup_r, gt_isub, gt_put_i, gt_putz, gt_bipush, gt_v0, gt_v1, gt_v2, gt_v3, gt_v4, gt_v5, bkX3_timeGoesOn_77, ka0_0]
  refine ⟨fun c_1 => ?_, fun c_1 => ?_⟩
  · replace h := gw_ifp2 (gw_c2_ne _ _) h c_1
    refine hK _ _ _ _ _ _ _ ?_
    rw [fdX3_timeGoesOn_119]
    simp only [gt_nil, true_and, eq_self, gt_iload_n, gt_ink, gw_nth, gt_iret, gt_retz, bkX3_timeGoesOn_119, ka0_0]
    obtain ⟨rfl, rfl⟩ := gw_inj2 h
    exact ⟨hcc, hss, hq⟩
  · replace h := gw_ifn2 (gw_c2_ne _ _) h c_1
    refine ⟨fun c_2 => ?_, fun c_2 => ?_⟩
    · replace h := gw_ifp h c_2
      refine hK _ _ _ _ _ _ _ ?_
      rw [fdX3_timeGoesOn_119]
      simp only [gt_nil, true_and, eq_self, gt_iload_n, gt_ink, gw_nth, gt_iret, gt_retz, bkX3_timeGoesOn_119, ka0_0]
      obtain ⟨rfl, rfl⟩ := gw_inj2 h
      exact ⟨hcc, hss, hq⟩
    · replace h := gw_ifn h c_2
      obtain ⟨μ_3, hμ_3, h⟩ := gw_lt h
      try rw [← hμ_3]
      refine ⟨fun c_4 => ?_, fun c_4 => ?_⟩
      · replace h := gw_ifp h c_4
        refine hK _ _ _ _ _ _ _ ?_
        rw [fdX3_timeGoesOn_119]
        simp only [gt_nil, true_and, eq_self, gt_iload_n, gt_ink, gw_nth, gt_iret, gt_retz, bkX3_timeGoesOn_119, ka0_0]
        obtain ⟨rfl, rfl⟩ := gw_inj2 h
        exact ⟨hcc, hss, hq⟩
      · replace h := gw_ifn h c_4
        obtain ⟨μ_6, e_7, h⟩ := gw_bnd h
        refine ⟨rfl, 0, 0, hcc, hss, ok_X3_dealToOuter hS0 e_7 ?_⟩
        simp only [gt_nil, true_and, eq_self, Option.toList, List.cons_append, List.nil_append, Nat.add_zero, ka0_0]
        refine hK _ _ _ _ _ _ _ ?_
        rw [fdX3_timeGoesOn_119]
        simp only [gt_nil, true_and, eq_self, gt_iload_n, gt_ink, gw_nth, gt_iret, gt_retz, bkX3_timeGoesOn_119, ka0_0]
        obtain ⟨rfl, rfl⟩ := gw_inj2 h
        exact ⟨hcc, hss, hq⟩
theorem B_X3_timeGoesOn_44 {l : Launch} {x : gw_C} {d : Nat} {S : gw_S} {Q : Option Value → gw_S → gw_M → Prop} {K : Nat → gw_Kt} {mc ms cc ss : Nat} (hcc : cc ≤ mc) (hss : ss ≤ ms) (hK : gw_cl l x (d + 4) mc ms bsX3_timeGoesOn Q K) {a0 : Nat} (hS0 : gw_sh S 3 a0) {n0 : Nat} : ∀ {n : Nat} {v1 v2} {u3 : Value} {μ : gw_M} {r μ'}, F_X3_timeGoesOn_44 n0 a0 n v1 v2 μ = some (r, μ') → Q (some (.int r)) S μ' → K 44 [.ref a0, .int v1, .int v2, u3] [] S μ cc ss := by
  have ka0_0 : gw_kd S a0 = 3 := (hS0 0 _ rfl).1
  intro n
  induction n with
  | zero => intro v1 v2 u3 μ r μ' h hq; simp [F_X3_timeGoesOn_44] at h
  | succ n ih =>
    intro v1 v2 u3 μ r μ' h hq
    simp only [F_X3_timeGoesOn_44] at h
    refine hK _ _ _ _ _ _ _ ?_
    rw [fdX3_timeGoesOn_44]
    simp only [gt_nil, true_and, eq_self, gt_iload_n, gt_ink, gw_nth, gt_bipush, gt_icmp, gt_aload_n, gt_rfk, gt_v0, gt_v1, gt_v2, gt_v3, gt_v4, gt_v5, gt_istore_n, gw_set, gt_iconst, gt_goto, bkX3_timeGoesOn_44, ka0_0]
    refine ⟨fun c_1 => ?_, fun c_1 => ?_⟩
    · replace h := gw_ifp2 (gw_c2_ge _ _) h c_1
      exact B_X3_timeGoesOn_77 hcc hss hK hS0 h hq
    · replace h := gw_ifn2 (gw_c2_ge _ _) h c_1
      obtain ⟨r_2, e_4, h⟩ := gw_bnd h
      refine ⟨rfl, 0, 0, hcc, hss, ok_X3_nextDueNow hS0 e_4 ?_⟩
      simp only [gt_nil, true_and, eq_self, gt_istore_n, gw_set, gt_iload_n, gt_ink, gw_nth, gt_iconst, gt_icmp, gt_goto, Option.toList, List.cons_append, List.nil_append, Nat.add_zero, ka0_0]
      refine ⟨fun c_6 => ?_, fun c_6 => ?_⟩
      · replace h := gw_ifp2 (gw_c2_ne _ _) h c_6
        refine hK _ _ _ _ _ _ _ ?_
        rw [fdX3_timeGoesOn_63]
        simp only [gt_nil, true_and, eq_self, gt_aload_n, gt_rfk, gw_nth, gt_iload_n, gt_ink, gt_v0, gt_v1, gt_v2, gt_v3, gt_v4, gt_v5, gt_iinc, gw_set, gt_goto, bkX3_timeGoesOn_63, ka0_0]
        obtain ⟨μ_8, e_9, h⟩ := gw_bnd h
        refine ⟨rfl, 0, 0, hcc, hss, ok_X3_goOff hS0 e_9 ?_⟩
        simp only [gt_nil, true_and, eq_self, gt_iinc, gt_ink, gw_nth, gw_set, gt_goto, Option.toList, List.cons_append, List.nil_append, Nat.add_zero, ka0_0]
        obtain ⟨w_11, hw_11, h⟩ := gw_lt h
        try rw [← hw_11]
        obtain ⟨w_12, hw_12, h⟩ := gw_lt h
        try rw [← hw_12]
        exact ih h hq
      · replace h := gw_ifn2 (gw_c2_ne _ _) h c_6
        exact B_X3_timeGoesOn_77 hcc hss hK hS0 h hq
theorem B_X3_timeGoesOn_35 {l : Launch} {x : gw_C} {d : Nat} {S : gw_S} {Q : Option Value → gw_S → gw_M → Prop} {K : Nat → gw_Kt} {mc ms cc ss : Nat} (hcc : cc ≤ mc) (hss : ss ≤ ms) (hK : gw_cl l x (d + 4) mc ms bsX3_timeGoesOn Q K) {a0 : Nat} (hS0 : gw_sh S 3 a0) {n0 : Nat} {s1} {u1 u2 u3 : Value} {μ : gw_M} {r μ'} (h : F_X3_timeGoesOn_35 n0 a0 s1 μ = some (r, μ')) (hq : Q (some (.int r)) S μ') : K 35 [.ref a0, u1, u2, u3] [.int s1, .ref (a0 + 33)] S μ cc ss := by
  have ka0_33 : gw_kd S (a0 + 33) = 12 := (hS0 33 _ rfl).1
  have la0_33 : gw_ln S (a0 + 33) = 4 := (hS0 33 _ rfl).2.1
  unfold F_X3_timeGoesOn_35 at h
  refine hK _ _ _ _ _ _ _ ?_
  rw [fdX3_timeGoesOn_35]
  simp only [gt_nil, true_and, eq_self, gt_dup2, gt_iaload, gt_iconst, gt_iadd, gt_iastore, gt_istore_n, gw_set, bkX3_timeGoesOn_35, ka0_33, la0_33]
  obtain ⟨c_1, h⟩ := gw_ife h
  refine ⟨c_1, ?_⟩
  obtain ⟨c_2, h⟩ := gw_ife h
  refine ⟨c_2, ?_⟩
  obtain ⟨μ_3, hμ_3, h⟩ := gw_lt h
  try rw [← hμ_3]
  exact B_X3_timeGoesOn_44 hcc hss hK hS0 h hq
theorem ok_X3_timeGoesOn {l : Launch} {x : gw_C} {d : Nat} {S : gw_S} {Q : Option Value → gw_S → gw_M → Prop} {a0 : Nat} {n0 : Nat} {μ : gw_M} {r μ'} (hS0 : gw_sh S 3 a0) (h : F_X3_timeGoesOn n0 a0 μ = some (r, μ')) (hq : Q (some (.int r)) S μ') : gw_ok l x (d + 5) sgX3_timeGoesOn 0 0 [.ref a0] S μ Q := by
  refine gw_ok_of stX3_timeGoesOn (lv0 := [.ref a0, .retAddr 0, .retAddr 0, .retAddr 0]) (Nat.le_of_ble_eq_true rfl) rfl rfl ?_
  intro K hK
  have hcc : 0 ≤ 0 := Nat.zero_le _
  have hss : 0 ≤ 0 := Nat.zero_le _
  have ka0_0 : gw_kd S a0 = 3 := (hS0 0 _ rfl).1
  have ra0_0_14 : gw_rf S a0 14 = a0 + 25 := (hS0 0 _ rfl).2.2 (14, 25) (by decide)
  have ka0_25 : gw_kd S (a0 + 25) = 2 := (hS0 25 _ rfl).1
  have ra0_25_11 : gw_rf S (a0 + 25) 11 = a0 + 33 := (hS0 25 _ rfl).2.2 (11, 33) (by decide)
  unfold F_X3_timeGoesOn at h
  refine hK _ _ _ _ _ _ _ ?_
  rw [fdX3_timeGoesOn_0]
  simp only [gt_nil, true_and, eq_self, gt_aload_n, gt_rfk, gw_nth, gt_dup_i, gt_dup_r, gt_get_r, gt_get_i, gt_get_z, gt_iconst, gt_iadd, gt_put_i, gt_putz, gt_icmp, gt_goto, bkX3_timeGoesOn_0, ka0_0, ra0_0_14, ka0_25, ra0_25_11]
  obtain ⟨μ_1, hμ_1, h⟩ := gw_lt h
  try rw [← hμ_1]
  refine ⟨fun c_2 => ?_, fun c_2 => ?_⟩
  · replace h := gw_ifp2 (gw_c2_ne _ _) h c_2
    refine hK _ _ _ _ _ _ _ ?_
    rw [fdX3_timeGoesOn_29]
    simp only [gt_nil, true_and, eq_self, gt_iconst, gt_aload_n, gt_rfk, gw_nth, gt_get_r, gt_get_i, gt_get_z, gt_iadd, bkX3_timeGoesOn_29, ka0_0, ra0_0_14, ka0_25, ra0_25_11]
    exact B_X3_timeGoesOn_35 hcc hss hK hS0 h hq
  · replace h := gw_ifn2 (gw_c2_ne _ _) h c_2
    exact B_X3_timeGoesOn_35 hcc hss hK hS0 h hq
def F_X3_lead (n0 : Nat) (a0 : Nat) (p1 : Nat) (v2 : Int32) (v3 : Int32) (μ : gw_M) : Option (gw_M) := (if ¬ v3 = (-3) then (if ¬ v3 = (-2) then some μ else (F_X3_seerOfInner n0 a0 0 μ).bind (fun (r_3 : Int32) => (if ¬ r_3 = 2 then some μ else (F_X1_trapAt n0 p1 v2 μ).bind (fun (μ_9 : gw_M) => some μ_9)))) else (F_X7_goTo n0 (p1 + 2) v2 μ).bind (fun (μ_13 : gw_M) => some μ_13))
theorem ok_X3_lead {l : Launch} {x : gw_C} {d : Nat} {S : gw_S} {Q : Option Value → gw_S → gw_M → Prop} {v2 v3 : Int32} {a0 p1 : Nat} {n0 : Nat} {μ : gw_M} {μ'} (hS0 : gw_sh S 3 a0) (hpp1 : gw_sh S 1 p1) (h : F_X3_lead n0 a0 p1 v2 v3 μ = some μ') (hq : Q none S μ') : gw_ok l x (d + 3) sgX3_lead 0 0 [.ref a0, .ref p1, .int v2, .int v3] S μ Q := by
  refine gw_ok_of stX3_lead (lv0 := [.ref a0, .ref p1, .int v2, .int v3]) (Nat.le_of_ble_eq_true rfl) rfl rfl ?_
  intro K hK
  have hcc : 0 ≤ 0 := Nat.zero_le _
  have hss : 0 ≤ 0 := Nat.zero_le _
  have ka0_0 : gw_kd S a0 = 3 := (hS0 0 _ rfl).1
  have kp1_0 : gw_kd S p1 = 1 := (hpp1 0 _ rfl).1
  have rp1_0_0 : gw_rf S p1 0 = p1 + 1 := (hpp1 0 _ rfl).2.2 (0, 1) (by decide)
  have kp1_1 : gw_kd S (p1 + 1) = 0 := (hpp1 1 _ rfl).1
  have rp1_1_0 : gw_rf S (p1 + 1) 0 = p1 + 2 := (hpp1 1 _ rfl).2.2 (0, 2) (by decide)
  have kp1_2 : gw_kd S (p1 + 2) = 7 := (hpp1 2 _ rfl).1
  unfold F_X3_lead at h
  refine hK _ _ _ _ _ _ _ ?_
  rw [fdX3_lead_0]
  simp only [gt_nil, true_and, eq_self, gt_iload_n, gt_ink, gw_nth, gt_bipush, gt_icmp, gt_aload_n, gt_rfk, gt_get_r, gt_get_i, gt_get_z, gt_v0, gt_v1, gt_v2, gt_v3, gt_v4, gt_v5, gt_goto, bkX3_lead_0, ka0_0, kp1_0, rp1_0_0, kp1_1, rp1_1_0, kp1_2]
  refine ⟨fun c_1 => ?_, fun c_1 => ?_⟩
  · replace h := gw_ifp2 (gw_c2_ne _ _) h c_1
    refine hK _ _ _ _ _ _ _ ?_
    rw [fdX3_lead_20]
    simp only [gt_nil, true_and, eq_self, gt_iload_n, gt_ink, gw_nth, gt_bipush, gt_icmp, gt_aload_n, gt_rfk, gt_iconst, gt_v0, gt_v1, gt_v2, gt_v3, gt_v4, gt_v5, bkX3_lead_20, ka0_0, kp1_0, rp1_0_0, kp1_1, rp1_1_0, kp1_2]
    refine ⟨fun c_2 => ?_, fun c_2 => ?_⟩
    · replace h := gw_ifp2 (gw_c2_ne _ _) h c_2
      refine hK _ _ _ _ _ _ _ ?_
      rw [fdX3_lead_40]
      simp only [gt_nil, true_and, eq_self, gt_vret, bkX3_lead_40, ka0_0, kp1_0, rp1_0_0, kp1_1, rp1_1_0, kp1_2]
      obtain rfl := gw_inj1 h
      exact ⟨hcc, hss, hq⟩
    · replace h := gw_ifn2 (gw_c2_ne _ _) h c_2
      obtain ⟨r_3, e_5, h⟩ := gw_bnd h
      refine ⟨rfl, 0, 0, hcc, hss, ok_X3_seerOfInner hS0 e_5 ?_⟩
      simp only [gt_nil, true_and, eq_self, gt_iconst, gt_icmp, gt_aload_n, gt_rfk, gw_nth, gt_iload_n, gt_ink, gt_v0, gt_v1, gt_v2, gt_v3, gt_v4, gt_v5, Option.toList, List.cons_append, List.nil_append, Nat.add_zero, ka0_0, kp1_0, rp1_0_0, kp1_1, rp1_1_0, kp1_2]
      refine ⟨fun c_7 => ?_, fun c_7 => ?_⟩
      · replace h := gw_ifp2 (gw_c2_ne _ _) h c_7
        refine hK _ _ _ _ _ _ _ ?_
        rw [fdX3_lead_40]
        simp only [gt_nil, true_and, eq_self, gt_vret, bkX3_lead_40, ka0_0, kp1_0, rp1_0_0, kp1_1, rp1_1_0, kp1_2]
        obtain rfl := gw_inj1 h
        exact ⟨hcc, hss, hq⟩
      · replace h := gw_ifn2 (gw_c2_ne _ _) h c_7
        obtain ⟨μ_9, e_10, h⟩ := gw_bnd h
        refine ⟨rfl, 0, 0, hcc, hss, ok_X1_trapAt hpp1 e_10 ?_⟩
        simp only [gt_nil, true_and, eq_self, Option.toList, List.cons_append, List.nil_append, Nat.add_zero, ka0_0, kp1_0, rp1_0_0, kp1_1, rp1_1_0, kp1_2]
        refine hK _ _ _ _ _ _ _ ?_
        rw [fdX3_lead_40]
        simp only [gt_nil, true_and, eq_self, gt_vret, bkX3_lead_40, ka0_0, kp1_0, rp1_0_0, kp1_1, rp1_1_0, kp1_2]
        obtain rfl := gw_inj1 h
        exact ⟨hcc, hss, hq⟩
  · replace h := gw_ifn2 (gw_c2_ne _ _) h c_1
    obtain ⟨μ_13, e_14, h⟩ := gw_bnd h
    refine ⟨rfl, 0, 0, hcc, hss, ok_X7_goTo (gw_sub hpp1 7 2 (by decide +kernel)) e_14 ?_⟩
    simp only [gt_nil, true_and, eq_self, gt_goto, Option.toList, List.cons_append, List.nil_append, Nat.add_zero, ka0_0, kp1_0, rp1_0_0, kp1_1, rp1_1_0, kp1_2]
    refine hK _ _ _ _ _ _ _ ?_
    rw [fdX3_lead_40]
    simp only [gt_nil, true_and, eq_self, gt_vret, bkX3_lead_40, ka0_0, kp1_0, rp1_0_0, kp1_1, rp1_1_0, kp1_2]
    obtain rfl := gw_inj1 h
    exact ⟨hcc, hss, hq⟩
def F_X7_advance (n0 : Nat) (a0 : Nat) (μ : gw_M) : Option (Int32 × gw_M) := gw_let ((μ a0 4)) (fun (w_1 : Int32) => (if (μ a0 3) ≤ (w_1 + (1 : Int32)) then gw_let (gw_up μ a0 4 0) (fun (μ_3 : gw_M) => some (w_1, μ_3)) else gw_let (gw_up μ a0 4 (w_1 + (1 : Int32))) (fun (μ_4 : gw_M) => some (w_1, μ_4))))
theorem ok_X7_advance {l : Launch} {x : gw_C} {d : Nat} {S : gw_S} {Q : Option Value → gw_S → gw_M → Prop} {a0 : Nat} {n0 : Nat} {μ : gw_M} {r μ'} (hS0 : gw_sh S 7 a0) (h : F_X7_advance n0 a0 μ = some (r, μ')) (hq : Q (some (.int r)) S μ') : gw_ok l x (d + 1) sgX7_advance 0 0 [.ref a0] S μ Q := by
  refine gw_ok_of stX7_advance (lv0 := [.ref a0, .retAddr 0]) (Nat.le_of_ble_eq_true rfl) rfl rfl ?_
  intro K hK
  have hcc : 0 ≤ 0 := Nat.zero_le _
  have hss : 0 ≤ 0 := Nat.zero_le _
  have ka0_0 : gw_kd S a0 = 7 := (hS0 0 _ rfl).1
  unfold F_X7_advance at h
  refine hK _ _ _ _ _ _ _ ?_
  rw [fdX7_advance_0]
  simp only [gt_nil, true_and, eq_self, gt_aload_n, gt_rfk, gw_nth, gt_get_r, gt_get_i, gt_get_z, gt_istore_n, gw_set, gt_iload_n, gt_ink, gt_iconst, gt_iadd, gt_icmp, gt_goto, bkX7_advance_0, ka0_0]
  obtain ⟨w_1, hw_1, h⟩ := gw_lt h
  try rw [← hw_1]
  refine ⟨fun c_2 => ?_, fun c_2 => ?_⟩
  · replace h := gw_ifp2 (gw_c2_ge _ _) h c_2
    refine hK _ _ _ _ _ _ _ ?_
    rw [fdX7_advance_22]
    simp only [gt_nil, true_and, eq_self, gt_iconst, bkX7_advance_22, ka0_0]
    refine hK _ _ _ _ _ _ _ ?_
    rw [fdX7_advance_23]
    simp only [gt_nil, true_and, eq_self, gt_put_i, gt_putz, gt_iload_n, gt_ink, gw_nth, gt_iret, gt_retz, bkX7_advance_23, ka0_0]
    obtain ⟨μ_3, hμ_3, h⟩ := gw_lt h
    try rw [← hμ_3]
    obtain ⟨rfl, rfl⟩ := gw_inj2 h
    exact ⟨hcc, hss, hq⟩
  · replace h := gw_ifn2 (gw_c2_ge _ _) h c_2
    refine hK _ _ _ _ _ _ _ ?_
    rw [fdX7_advance_23]
    simp only [gt_nil, true_and, eq_self, gt_put_i, gt_putz, gt_iload_n, gt_ink, gw_nth, gt_iret, gt_retz, bkX7_advance_23, ka0_0]
    obtain ⟨μ_4, hμ_4, h⟩ := gw_lt h
    try rw [← hμ_4]
    obtain ⟨rfl, rfl⟩ := gw_inj2 h
    exact ⟨hcc, hss, hq⟩
def F_X3_actOfInner_162 (n0 : Nat) (a0 : Nat) (p1 : Nat) (v4 : Int32) (v5 : Int32) (v6 : Int32) (μ : gw_M) : Option (gw_M) := (F_X1_actAlone n0 p1 v4 v5 v6 μ).bind (fun (μ_2 : gw_M) => some μ_2)
def F_X3_actOfInner_100 (n0 : Nat) (a0 : Nat) (p1 : Nat) (v3 : Int32) (v4 : Int32) (v5 : Int32) (v6 : Int32) (μ : gw_M) : Option (gw_M) := (gw_bi (F_X3_touchByInner n0 a0 v5 v4 v6 μ) (fun (r_1 : Int32) (μ_2 : gw_M) => (F_X3_lead n0 a0 p1 v3 r_1 μ_2).bind (fun (μ_6 : gw_M) => some μ_6)))
def F_X3_actOfInner (n0 : Nat) (a0 : Nat) (μ : gw_M) : Option (gw_M) := (F_X3_inHand n0 a0 μ).bind (fun (r_1 : Nat) => (if ¬ (μ (r_1 + 2) 3) = 0 then (gw_bi (F_X7_advance n0 (r_1 + 2) μ) (fun (r_6 : Int32) (μ_7 : gw_M) => (if 0 ≤ r_6 ∧ r_6.toNatClampNeg < 24 then gw_let ((μ_7 (r_1 + 3) r_6.toNatClampNeg)) (fun (w_11 : Int32) => (if 0 ≤ r_6 ∧ r_6.toNatClampNeg < 24 then gw_let ((μ_7 (r_1 + 4) r_6.toNatClampNeg)) (fun (w_13 : Int32) => (if 0 ≤ r_6 ∧ r_6.toNatClampNeg < 24 then gw_let ((μ_7 (r_1 + 5) r_6.toNatClampNeg)) (fun (w_15 : Int32) => (if w_11 = (0 : Int32) then F_X3_actOfInner_100 n0 a0 r_1 r_6 w_11 w_13 w_15 μ_7 else (if w_11 = ((0 : Int32) + 1) then F_X3_actOfInner_100 n0 a0 r_1 r_6 w_11 w_13 w_15 μ_7 else (if w_11 = (((0 : Int32) + 1) + 1) then F_X3_actOfInner_100 n0 a0 r_1 r_6 w_11 w_13 w_15 μ_7 else (if w_11 = ((((0 : Int32) + 1) + 1) + 1) then (gw_bi (F_X3_eventOfInner n0 a0 w_13 μ_7) (fun (r_20 : Int32) (μ_21 : gw_M) => some μ_21)) else (if w_11 = (((((0 : Int32) + 1) + 1) + 1) + 1) then gw_let (gw_up μ_7 (r_1 + 1) 4 1) (fun (μ_25 : gw_M) => some μ_25) else (if w_11 = ((((((0 : Int32) + 1) + 1) + 1) + 1) + 1) then gw_let (gw_up μ_7 (r_1 + 1) 4 0) (fun (μ_27 : gw_M) => some μ_27) else (if w_11 = (((((((0 : Int32) + 1) + 1) + 1) + 1) + 1) + 1) then F_X3_actOfInner_162 n0 a0 r_1 w_11 w_13 w_15 μ_7 else (if w_11 = ((((((((0 : Int32) + 1) + 1) + 1) + 1) + 1) + 1) + 1) then (gw_bi (F_X0_endService n0 (r_1 + 1) μ_7) (fun (r_30 : Int32) (μ_31 : gw_M) => some μ_31)) else F_X3_actOfInner_162 n0 a0 r_1 w_11 w_13 w_15 μ_7))))))))) else none)) else none)) else none))) else some μ))
theorem B_X3_actOfInner_162 {l : Launch} {x : gw_C} {d : Nat} {S : gw_S} {Q : Option Value → gw_S → gw_M → Prop} {K : Nat → gw_Kt} {mc ms cc ss : Nat} (hcc : cc ≤ mc) (hss : ss ≤ ms) (hK : gw_cl l x (d + 4) mc ms bsX3_actOfInner Q K) {a0 : Nat} (hS0 : gw_sh S 3 a0) {p1 : Nat} (hpp1 : gw_sh S 1 p1) {n0 : Nat} {v4 v5 v6} {u2 u3 : Value} {μ : gw_M} {μ'} (h : F_X3_actOfInner_162 n0 a0 p1 v4 v5 v6 μ = some μ') (hq : Q none S μ') : K 162 [.ref a0, .ref p1, u2, u3, .int v4, .int v5, .int v6] [] S μ cc ss := by
  have kp1_0 : gw_kd S p1 = 1 := (hpp1 0 _ rfl).1
  unfold F_X3_actOfInner_162 at h
  refine hK _ _ _ _ _ _ _ ?_
  rw [fdX3_actOfInner_162]
  simp only [gt_nil, true_and, eq_self, gt_aload_n, gt_rfk, gw_nth, gt_iload, gt_ink, gt_v0, gt_v1, gt_v2, gt_v3, gt_v4, gt_v5, bkX3_actOfInner_162, kp1_0]
  obtain ⟨μ_2, e_3, h⟩ := gw_bnd h
  refine ⟨rfl, 0, 0, hcc, hss, ok_X1_actAlone hpp1 e_3 ?_⟩
  simp only [gt_nil, true_and, eq_self, Option.toList, List.cons_append, List.nil_append, Nat.add_zero, kp1_0]
  refine hK _ _ _ _ _ _ _ ?_
  rw [fdX3_actOfInner_172]
  simp only [gt_nil, true_and, eq_self, gt_vret, bkX3_actOfInner_172, kp1_0]
  obtain rfl := gw_inj1 h
  exact ⟨hcc, hss, hq⟩
theorem B_X3_actOfInner_100 {l : Launch} {x : gw_C} {d : Nat} {S : gw_S} {Q : Option Value → gw_S → gw_M → Prop} {K : Nat → gw_Kt} {mc ms cc ss : Nat} (hcc : cc ≤ mc) (hss : ss ≤ ms) (hK : gw_cl l x (d + 4) mc ms bsX3_actOfInner Q K) {a0 : Nat} (hS0 : gw_sh S 3 a0) {p1 : Nat} (hpp1 : gw_sh S 1 p1) {n0 : Nat} {v3 v4 v5 v6} {u2 : Value} {μ : gw_M} {μ'} (h : F_X3_actOfInner_100 n0 a0 p1 v3 v4 v5 v6 μ = some μ') (hq : Q none S μ') : K 100 [.ref a0, .ref p1, u2, .int v3, .int v4, .int v5, .int v6] [] S μ cc ss := by
  have ka0_0 : gw_kd S a0 = 3 := (hS0 0 _ rfl).1
  have kp1_0 : gw_kd S p1 = 1 := (hpp1 0 _ rfl).1
  unfold F_X3_actOfInner_100 at h
  refine hK _ _ _ _ _ _ _ ?_
  rw [fdX3_actOfInner_100]
  simp only [gt_nil, true_and, eq_self, gt_aload_n, gt_rfk, gw_nth, gt_iload_n, gt_ink, gt_iload, gt_v0, gt_v1, gt_v2, gt_v3, gt_v4, gt_v5, gt_goto, bkX3_actOfInner_100, ka0_0, kp1_0]
  obtain ⟨r_1, μ_2, e_3, h⟩ := gw_bnd2 h
  refine ⟨rfl, 0, 0, hcc, hss, ok_X3_touchByInner hS0 e_3 ?_⟩
  simp only [gt_nil, true_and, eq_self, gt_v0, gt_v1, gt_v2, gt_v3, gt_v4, gt_v5, gt_goto, Option.toList, List.cons_append, List.nil_append, Nat.add_zero, ka0_0, kp1_0]
  obtain ⟨μ_6, e_7, h⟩ := gw_bnd h
  refine ⟨rfl, 0, 0, hcc, hss, ok_X3_lead hS0 hpp1 e_7 ?_⟩
  simp only [gt_nil, true_and, eq_self, gt_goto, Option.toList, List.cons_append, List.nil_append, Nat.add_zero, ka0_0, kp1_0]
  refine hK _ _ _ _ _ _ _ ?_
  rw [fdX3_actOfInner_172]
  simp only [gt_nil, true_and, eq_self, gt_vret, bkX3_actOfInner_172, ka0_0, kp1_0]
  obtain rfl := gw_inj1 h
  exact ⟨hcc, hss, hq⟩
theorem ok_X3_actOfInner {l : Launch} {x : gw_C} {d : Nat} {S : gw_S} {Q : Option Value → gw_S → gw_M → Prop} {a0 : Nat} {n0 : Nat} {μ : gw_M} {μ'} (hS0 : gw_sh S 3 a0) (h : F_X3_actOfInner n0 a0 μ = some μ') (hq : Q none S μ') : gw_ok l x (d + 5) sgX3_actOfInner 0 0 [.ref a0] S μ Q := by
  refine gw_ok_of stX3_actOfInner (lv0 := [.ref a0, .retAddr 0, .retAddr 0, .retAddr 0, .retAddr 0, .retAddr 0, .retAddr 0]) (Nat.le_of_ble_eq_true rfl) rfl rfl ?_
  intro K hK
  have hcc : 0 ≤ 0 := Nat.zero_le _
  have hss : 0 ≤ 0 := Nat.zero_le _
  have ka0_0 : gw_kd S a0 = 3 := (hS0 0 _ rfl).1
  unfold F_X3_actOfInner at h
  refine hK _ _ _ _ _ _ _ ?_
  rw [fdX3_actOfInner_0]
  simp only [gt_nil, true_and, eq_self, gt_aload_n, gt_rfk, gw_nth, gt_v0, gt_v1, gt_v2, gt_v3, gt_v4, gt_v5, gt_astore_n, gw_set, gt_get_r, gt_get_i, gt_get_z, gt_if, gt_vret, bkX3_actOfInner_0, ka0_0]
  obtain ⟨r_1, e_3, h⟩ := gw_bnd h
  refine ⟨rfl, 0, 0, hcc, hss, ok_X3_inHand hS0 e_3 ?_⟩
  intro hsr_1
  have kr_1_0 : gw_kd S r_1 = 1 := (hsr_1 0 _ rfl).1
  have rr_1_0_0 : gw_rf S r_1 0 = r_1 + 1 := (hsr_1 0 _ rfl).2.2 (0, 1) (by decide)
  have kr_1_1 : gw_kd S (r_1 + 1) = 0 := (hsr_1 1 _ rfl).1
  have rr_1_1_0 : gw_rf S (r_1 + 1) 0 = r_1 + 2 := (hsr_1 1 _ rfl).2.2 (0, 2) (by decide)
  have kr_1_2 : gw_kd S (r_1 + 2) = 7 := (hsr_1 2 _ rfl).1
  have rr_1_2_0 : gw_rf S (r_1 + 2) 0 = r_1 + 3 := (hsr_1 2 _ rfl).2.2 (0, 3) (by decide)
  have rr_1_2_1 : gw_rf S (r_1 + 2) 1 = r_1 + 4 := (hsr_1 2 _ rfl).2.2 (1, 4) (by decide)
  have rr_1_2_2 : gw_rf S (r_1 + 2) 2 = r_1 + 5 := (hsr_1 2 _ rfl).2.2 (2, 5) (by decide)
  have kr_1_3 : gw_kd S (r_1 + 3) = 12 := (hsr_1 3 _ rfl).1
  have lr_1_3 : gw_ln S (r_1 + 3) = 24 := (hsr_1 3 _ rfl).2.1
  have kr_1_4 : gw_kd S (r_1 + 4) = 12 := (hsr_1 4 _ rfl).1
  have lr_1_4 : gw_ln S (r_1 + 4) = 24 := (hsr_1 4 _ rfl).2.1
  have kr_1_5 : gw_kd S (r_1 + 5) = 12 := (hsr_1 5 _ rfl).1
  have lr_1_5 : gw_ln S (r_1 + 5) = 24 := (hsr_1 5 _ rfl).2.1
  simp only [gt_nil, true_and, eq_self, gt_astore_n, gw_set, gt_aload_n, gt_rfk, gw_nth, gt_get_r, gt_get_i, gt_get_z, gt_if, gt_vret, Option.toList, List.cons_append, List.nil_append, Nat.add_zero, ka0_0, kr_1_0, rr_1_0_0, kr_1_1, rr_1_1_0, kr_1_2, rr_1_2_0, rr_1_2_1, rr_1_2_2, kr_1_3, lr_1_3, kr_1_4, lr_1_4, kr_1_5, lr_1_5]
  refine ⟨fun c_5 => ?_, fun c_5 => ?_⟩
  · replace h := gw_ifp h c_5
    refine hK _ _ _ _ _ _ _ ?_
    rw [fdX3_actOfInner_21]
    simp only [gt_nil, true_and, eq_self, gt_aload_n, gt_rfk, gw_nth, gt_v0, gt_v1, gt_v2, gt_v3, gt_v4, gt_v5, gt_istore_n, gw_set, gt_get_r, gt_get_i, gt_get_z, gt_iload_n, gt_ink, gt_iaload, gt_istore, gt_iload, gt_tsw, gw_sw, bkX3_actOfInner_21, ka0_0, kr_1_0, rr_1_0_0, kr_1_1, rr_1_1_0, kr_1_2, rr_1_2_0, rr_1_2_1, rr_1_2_2, kr_1_3, lr_1_3, kr_1_4, lr_1_4, kr_1_5, lr_1_5]
    obtain ⟨r_6, μ_7, e_8, h⟩ := gw_bnd2 h
    refine ⟨rfl, 0, 0, hcc, hss, ok_X7_advance (gw_sub hsr_1 7 2 (by decide +kernel)) e_8 ?_⟩
    simp only [gt_nil, true_and, eq_self, gt_istore_n, gw_set, gt_aload_n, gt_rfk, gw_nth, gt_get_r, gt_get_i, gt_get_z, gt_iload_n, gt_ink, gt_iaload, gt_istore, gt_iload, gt_tsw, gw_sw, Option.toList, List.cons_append, List.nil_append, Nat.add_zero, ka0_0, kr_1_0, rr_1_0_0, kr_1_1, rr_1_1_0, kr_1_2, rr_1_2_0, rr_1_2_1, rr_1_2_2, kr_1_3, lr_1_3, kr_1_4, lr_1_4, kr_1_5, lr_1_5]
    obtain ⟨c_10, h⟩ := gw_ife h
    refine ⟨c_10, ?_⟩
    obtain ⟨w_11, hw_11, h⟩ := gw_lt h
    try rw [← hw_11]
    obtain ⟨c_12, h⟩ := gw_ife h
    refine ⟨c_12, ?_⟩
    obtain ⟨w_13, hw_13, h⟩ := gw_lt h
    try rw [← hw_13]
    obtain ⟨c_14, h⟩ := gw_ife h
    refine ⟨c_14, ?_⟩
    obtain ⟨w_15, hw_15, h⟩ := gw_lt h
    try rw [← hw_15]
    refine ⟨fun c_16 => ?_, fun c_16 => ?_⟩
    · replace h := gw_ifp h c_16
      exact B_X3_actOfInner_100 hcc hss hK hS0 hsr_1 h hq
    replace h := gw_ifn h c_16
    refine ⟨fun c_17 => ?_, fun c_17 => ?_⟩
    · replace h := gw_ifp h c_17
      exact B_X3_actOfInner_100 hcc hss hK hS0 hsr_1 h hq
    replace h := gw_ifn h c_17
    refine ⟨fun c_18 => ?_, fun c_18 => ?_⟩
    · replace h := gw_ifp h c_18
      exact B_X3_actOfInner_100 hcc hss hK hS0 hsr_1 h hq
    replace h := gw_ifn h c_18
    refine ⟨fun c_19 => ?_, fun c_19 => ?_⟩
    · replace h := gw_ifp h c_19
      refine hK _ _ _ _ _ _ _ ?_
      rw [fdX3_actOfInner_119]
      simp only [gt_nil, true_and, eq_self, gt_aload_n, gt_rfk, gw_nth, gt_iload, gt_ink, gt_v0, gt_v1, gt_v2, gt_v3, gt_v4, gt_v5, gt_pop_i, gt_pop_r, gt_goto, bkX3_actOfInner_119, ka0_0, kr_1_0, rr_1_0_0, kr_1_1, rr_1_1_0, kr_1_2, rr_1_2_0, rr_1_2_1, rr_1_2_2, kr_1_3, lr_1_3, kr_1_4, lr_1_4, kr_1_5, lr_1_5]
      obtain ⟨r_20, μ_21, e_22, h⟩ := gw_bnd2 h
      refine ⟨rfl, 0, 0, hcc, hss, ok_X3_eventOfInner hS0 e_22 ?_⟩
      simp only [gt_nil, true_and, eq_self, gt_pop_i, gt_pop_r, gt_goto, Option.toList, List.cons_append, List.nil_append, Nat.add_zero, ka0_0, kr_1_0, rr_1_0_0, kr_1_1, rr_1_1_0, kr_1_2, rr_1_2_0, rr_1_2_1, rr_1_2_2, kr_1_3, lr_1_3, kr_1_4, lr_1_4, kr_1_5, lr_1_5]
      refine hK _ _ _ _ _ _ _ ?_
      rw [fdX3_actOfInner_172]
      simp only [gt_nil, true_and, eq_self, gt_vret, bkX3_actOfInner_172, ka0_0, kr_1_0, rr_1_0_0, kr_1_1, rr_1_1_0, kr_1_2, rr_1_2_0, rr_1_2_1, rr_1_2_2, kr_1_3, lr_1_3, kr_1_4, lr_1_4, kr_1_5, lr_1_5]
      obtain rfl := gw_inj1 h
      exact ⟨hcc, hss, hq⟩
    replace h := gw_ifn h c_19
    refine ⟨fun c_24 => ?_, fun c_24 => ?_⟩
    · replace h := gw_ifp h c_24
      refine hK _ _ _ _ _ _ _ ?_
      rw [fdX3_actOfInner_129]
      simp only [gt_nil, true_and, eq_self, gt_aload_n, gt_rfk, gw_nth, gt_get_r, gt_get_i, gt_get_z, gt_iconst, gt_put_i, gt_putz, gt_goto, bkX3_actOfInner_129, ka0_0, kr_1_0, rr_1_0_0, kr_1_1, rr_1_1_0, kr_1_2, rr_1_2_0, rr_1_2_1, rr_1_2_2, kr_1_3, lr_1_3, kr_1_4, lr_1_4, kr_1_5, lr_1_5]
      refine ⟨(Or.inr rfl), ?_⟩
      obtain ⟨μ_25, hμ_25, h⟩ := gw_lt h
      try rw [← hμ_25]
      refine hK _ _ _ _ _ _ _ ?_
      rw [fdX3_actOfInner_172]
      simp only [gt_nil, true_and, eq_self, gt_vret, bkX3_actOfInner_172, ka0_0, kr_1_0, rr_1_0_0, kr_1_1, rr_1_1_0, kr_1_2, rr_1_2_0, rr_1_2_1, rr_1_2_2, kr_1_3, lr_1_3, kr_1_4, lr_1_4, kr_1_5, lr_1_5]
      obtain rfl := gw_inj1 h
      exact ⟨hcc, hss, hq⟩
    replace h := gw_ifn h c_24
    refine ⟨fun c_26 => ?_, fun c_26 => ?_⟩
    · replace h := gw_ifp h c_26
      refine hK _ _ _ _ _ _ _ ?_
      rw [fdX3_actOfInner_140]
      simp only [gt_nil, true_and, eq_self, gt_aload_n, gt_rfk, gw_nth, gt_get_r, gt_get_i, gt_get_z, gt_iconst, gt_put_i, gt_putz, gt_goto, bkX3_actOfInner_140, ka0_0, kr_1_0, rr_1_0_0, kr_1_1, rr_1_1_0, kr_1_2, rr_1_2_0, rr_1_2_1, rr_1_2_2, kr_1_3, lr_1_3, kr_1_4, lr_1_4, kr_1_5, lr_1_5]
      refine ⟨(Or.inl rfl), ?_⟩
      obtain ⟨μ_27, hμ_27, h⟩ := gw_lt h
      try rw [← hμ_27]
      refine hK _ _ _ _ _ _ _ ?_
      rw [fdX3_actOfInner_172]
      simp only [gt_nil, true_and, eq_self, gt_vret, bkX3_actOfInner_172, ka0_0, kr_1_0, rr_1_0_0, kr_1_1, rr_1_1_0, kr_1_2, rr_1_2_0, rr_1_2_1, rr_1_2_2, kr_1_3, lr_1_3, kr_1_4, lr_1_4, kr_1_5, lr_1_5]
      obtain rfl := gw_inj1 h
      exact ⟨hcc, hss, hq⟩
    replace h := gw_ifn h c_26
    refine ⟨fun c_28 => ?_, fun c_28 => ?_⟩
    · replace h := gw_ifp h c_28
      exact B_X3_actOfInner_162 hcc hss hK hS0 hsr_1 h hq
    replace h := gw_ifn h c_28
    refine ⟨fun c_29 => ?_, fun c_29 => ?_⟩
    · replace h := gw_ifp h c_29
      refine hK _ _ _ _ _ _ _ ?_
      rw [fdX3_actOfInner_151]
      simp only [gt_nil, true_and, eq_self, gt_aload_n, gt_rfk, gw_nth, gt_get_r, gt_get_i, gt_get_z, gt_v0, gt_v1, gt_v2, gt_v3, gt_v4, gt_v5, gt_pop_i, gt_pop_r, gt_goto, bkX3_actOfInner_151, ka0_0, kr_1_0, rr_1_0_0, kr_1_1, rr_1_1_0, kr_1_2, rr_1_2_0, rr_1_2_1, rr_1_2_2, kr_1_3, lr_1_3, kr_1_4, lr_1_4, kr_1_5, lr_1_5]
      obtain ⟨r_30, μ_31, e_32, h⟩ := gw_bnd2 h
      refine ⟨rfl, 0, 0, hcc, hss, ok_X0_endService (gw_sub hsr_1 0 1 (by decide +kernel)) e_32 ?_⟩
      simp only [gt_nil, true_and, eq_self, gt_pop_i, gt_pop_r, gt_goto, Option.toList, List.cons_append, List.nil_append, Nat.add_zero, ka0_0, kr_1_0, rr_1_0_0, kr_1_1, rr_1_1_0, kr_1_2, rr_1_2_0, rr_1_2_1, rr_1_2_2, kr_1_3, lr_1_3, kr_1_4, lr_1_4, kr_1_5, lr_1_5]
      refine hK _ _ _ _ _ _ _ ?_
      rw [fdX3_actOfInner_172]
      simp only [gt_nil, true_and, eq_self, gt_vret, bkX3_actOfInner_172, ka0_0, kr_1_0, rr_1_0_0, kr_1_1, rr_1_1_0, kr_1_2, rr_1_2_0, rr_1_2_1, rr_1_2_2, kr_1_3, lr_1_3, kr_1_4, lr_1_4, kr_1_5, lr_1_5]
      obtain rfl := gw_inj1 h
      exact ⟨hcc, hss, hq⟩
    replace h := gw_ifn h c_29
    exact B_X3_actOfInner_162 hcc hss hK hS0 hsr_1 h hq
  · replace h := gw_ifn h c_5
    obtain rfl := gw_inj1 h
    exact ⟨hcc, hss, hq⟩
def F_X3_switchUnlessInHand (n0 : Nat) (a0 : Nat) (v1 : Int32) (μ : gw_M) : Option (gw_M) := (if v1 = (μ a0 5) then some μ else (F_X3_switchTo n0 a0 v1 μ).bind (fun (μ_3 : gw_M) => some μ_3))
theorem ok_X3_switchUnlessInHand {l : Launch} {x : gw_C} {d : Nat} {S : gw_S} {Q : Option Value → gw_S → gw_M → Prop} {v1 : Int32} {a0 : Nat} {n0 : Nat} {μ : gw_M} {μ'} (hS0 : gw_sh S 3 a0) (h : F_X3_switchUnlessInHand n0 a0 v1 μ = some μ') (hq : Q none S μ') : gw_ok l x (d + 4) sgX3_switchUnlessInHand 0 0 [.ref a0, .int v1] S μ Q := by
  refine gw_ok_of stX3_switchUnlessInHand (lv0 := [.ref a0, .int v1]) (Nat.le_of_ble_eq_true rfl) rfl rfl ?_
  intro K hK
  have hcc : 0 ≤ 0 := Nat.zero_le _
  have hss : 0 ≤ 0 := Nat.zero_le _
  have ka0_0 : gw_kd S a0 = 3 := (hS0 0 _ rfl).1
  unfold F_X3_switchUnlessInHand at h
  refine hK _ _ _ _ _ _ _ ?_
  rw [fdX3_switchUnlessInHand_0]
  simp only [gt_nil, true_and, eq_self, gt_iload_n, gt_ink, gw_nth, gt_aload_n, gt_rfk, gt_get_r, gt_get_i, gt_get_z, gt_icmp, gt_v0, gt_v1, gt_v2, gt_v3, gt_v4, gt_v5, bkX3_switchUnlessInHand_0, ka0_0]
  refine ⟨fun c_1 => ?_, fun c_1 => ?_⟩
  · replace h := gw_ifp2 (gw_c2_eq _ _) h c_1
    refine hK _ _ _ _ _ _ _ ?_
    rw [fdX3_switchUnlessInHand_13]
    simp only [gt_nil, true_and, eq_self, gt_vret, bkX3_switchUnlessInHand_13, ka0_0]
    obtain rfl := gw_inj1 h
    exact ⟨hcc, hss, hq⟩
  · replace h := gw_ifn2 (gw_c2_eq _ _) h c_1
    obtain ⟨μ_3, e_4, h⟩ := gw_bnd h
    refine ⟨rfl, 0, 0, hcc, hss, ok_X3_switchTo hS0 e_4 ?_⟩
    simp only [gt_nil, true_and, eq_self, Option.toList, List.cons_append, List.nil_append, Nat.add_zero, ka0_0]
    refine hK _ _ _ _ _ _ _ ?_
    rw [fdX3_switchUnlessInHand_13]
    simp only [gt_nil, true_and, eq_self, gt_vret, bkX3_switchUnlessInHand_13, ka0_0]
    obtain rfl := gw_inj1 h
    exact ⟨hcc, hss, hq⟩
def F_X3_tellMissed (n0 : Nat) (a0 : Nat) (v1 : Int32) (μ : gw_M) : Option (gw_M) := (if (μ a0 12) = (-1) then some μ else (F_X3_tellInner n0 a0 (μ a0 12) v1 7 μ).bind (fun (μ_3 : gw_M) => some μ_3))
theorem ok_X3_tellMissed {l : Launch} {x : gw_C} {d : Nat} {S : gw_S} {Q : Option Value → gw_S → gw_M → Prop} {v1 : Int32} {a0 : Nat} {n0 : Nat} {μ : gw_M} {μ'} (hS0 : gw_sh S 3 a0) (h : F_X3_tellMissed n0 a0 v1 μ = some μ') (hq : Q none S μ') : gw_ok l x (d + 3) sgX3_tellMissed 0 0 [.ref a0, .int v1] S μ Q := by
  refine gw_ok_of stX3_tellMissed (lv0 := [.ref a0, .int v1]) (Nat.le_of_ble_eq_true rfl) rfl rfl ?_
  intro K hK
  have hcc : 0 ≤ 0 := Nat.zero_le _
  have hss : 0 ≤ 0 := Nat.zero_le _
  have ka0_0 : gw_kd S a0 = 3 := (hS0 0 _ rfl).1
  unfold F_X3_tellMissed at h
  refine hK _ _ _ _ _ _ _ ?_
  rw [fdX3_tellMissed_0]
  simp only [gt_nil, true_and, eq_self, gt_aload_n, gt_rfk, gw_nth, gt_get_r, gt_get_i, gt_get_z, gt_iconst, gt_icmp, gt_iload_n, gt_ink, gt_bipush, gt_v0, gt_v1, gt_v2, gt_v3, gt_v4, gt_v5, bkX3_tellMissed_0, ka0_0]
  refine ⟨fun c_1 => ?_, fun c_1 => ?_⟩
  · replace h := gw_ifp2 (gw_c2_eq _ _) h c_1
    refine hK _ _ _ _ _ _ _ ?_
    rw [fdX3_tellMissed_19]
    simp only [gt_nil, true_and, eq_self, gt_vret, bkX3_tellMissed_19, ka0_0]
    obtain rfl := gw_inj1 h
    exact ⟨hcc, hss, hq⟩
  · replace h := gw_ifn2 (gw_c2_eq _ _) h c_1
    obtain ⟨μ_3, e_4, h⟩ := gw_bnd h
    refine ⟨rfl, 0, 0, hcc, hss, ok_X3_tellInner hS0 e_4 ?_⟩
    simp only [gt_nil, true_and, eq_self, Option.toList, List.cons_append, List.nil_append, Nat.add_zero, ka0_0]
    refine hK _ _ _ _ _ _ _ ?_
    rw [fdX3_tellMissed_19]
    simp only [gt_nil, true_and, eq_self, gt_vret, bkX3_tellMissed_19, ka0_0]
    obtain rfl := gw_inj1 h
    exact ⟨hcc, hss, hq⟩
def F_X3_actOfOuter_108 (n0 : Nat) (a0 : Nat) (v3 : Int32) (v4 : Int32) (v5 : Int32) (μ : gw_M) : Option (gw_M) := (gw_bi (F_X3_touchByOuter n0 a0 v4 v3 v5 μ) (fun (r_1 : Int32) (μ_2 : gw_M) => some μ_2))
def F_X3_actOfOuter (n0 : Nat) (a0 : Nat) (μ : gw_M) : Option (gw_M) := (if ¬ (μ (a0 + 13) 3) = 0 then (gw_bi (F_X7_advance n0 (a0 + 13) μ) (fun (r_2 : Int32) (μ_3 : gw_M) => (if 0 ≤ r_2 ∧ r_2.toNatClampNeg < 24 then gw_let ((μ_3 (a0 + 14) r_2.toNatClampNeg)) (fun (w_7 : Int32) => (if 0 ≤ r_2 ∧ r_2.toNatClampNeg < 24 then gw_let ((μ_3 (a0 + 15) r_2.toNatClampNeg)) (fun (w_9 : Int32) => (if 0 ≤ r_2 ∧ r_2.toNatClampNeg < 24 then gw_let ((μ_3 (a0 + 16) r_2.toNatClampNeg)) (fun (w_11 : Int32) => (if w_7 = (0 : Int32) then F_X3_actOfOuter_108 n0 a0 w_7 w_9 w_11 μ_3 else (if w_7 = ((0 : Int32) + 1) then F_X3_actOfOuter_108 n0 a0 w_7 w_9 w_11 μ_3 else (if w_7 = (((0 : Int32) + 1) + 1) then F_X3_actOfOuter_108 n0 a0 w_7 w_9 w_11 μ_3 else (if w_7 = ((((0 : Int32) + 1) + 1) + 1) then (gw_bi (F_X3_eventOfOuter n0 a0 w_9 μ_3) (fun (r_16 : Int32) (μ_17 : gw_M) => some μ_17)) else (if w_7 = (((((0 : Int32) + 1) + 1) + 1) + 1) then gw_let (gw_up μ_3 (a0 + 12) 4 1) (fun (μ_21 : gw_M) => some μ_21) else (if w_7 = ((((((0 : Int32) + 1) + 1) + 1) + 1) + 1) then gw_let (gw_up μ_3 (a0 + 12) 4 0) (fun (μ_23 : gw_M) => some μ_23) else (if w_7 = (((((((0 : Int32) + 1) + 1) + 1) + 1) + 1) + 1) then (F_X3_enterInner n0 a0 μ_3).bind (fun (μ_26 : gw_M) => some μ_26) else (if w_7 = ((((((((0 : Int32) + 1) + 1) + 1) + 1) + 1) + 1) + 1) then (F_X3_tellInner n0 a0 w_9 w_11 7 μ_3).bind (fun (μ_31 : gw_M) => some μ_31) else (if w_7 = (((((((((0 : Int32) + 1) + 1) + 1) + 1) + 1) + 1) + 1) + 1) then (F_X3_inHand n0 a0 μ_3).bind (fun (r_35 : Nat) => (F_X0_await n0 (r_35 + 1) w_9 (μ_3 a0 7) μ_3).bind (fun (μ_40 : gw_M) => some μ_40)) else (if w_7 = ((((((((((0 : Int32) + 1) + 1) + 1) + 1) + 1) + 1) + 1) + 1) + 1) then (F_X3_tellMissed n0 a0 w_9 μ_3).bind (fun (μ_45 : gw_M) => some μ_45) else (if w_7 = (((((((((((0 : Int32) + 1) + 1) + 1) + 1) + 1) + 1) + 1) + 1) + 1) + 1) then (gw_bi (F_X0_endService n0 (a0 + 12) μ_3) (fun (r_49 : Int32) (μ_50 : gw_M) => some μ_50)) else (if w_7 = ((((((((((((0 : Int32) + 1) + 1) + 1) + 1) + 1) + 1) + 1) + 1) + 1) + 1) + 1) then (F_X3_switchUnlessInHand n0 a0 w_9 μ_3).bind (fun (μ_55 : gw_M) => some μ_55) else some μ_3))))))))))))) else none)) else none)) else none))) else some μ)
theorem B_X3_actOfOuter_108 {l : Launch} {x : gw_C} {d : Nat} {S : gw_S} {Q : Option Value → gw_S → gw_M → Prop} {K : Nat → gw_Kt} {mc ms cc ss : Nat} (hcc : cc ≤ mc) (hss : ss ≤ ms) (hK : gw_cl l x (d + 4) mc ms bsX3_actOfOuter Q K) {a0 : Nat} (hS0 : gw_sh S 3 a0) {n0 : Nat} {v3 v4 v5} {u1 u2 : Value} {μ : gw_M} {μ'} (h : F_X3_actOfOuter_108 n0 a0 v3 v4 v5 μ = some μ') (hq : Q none S μ') : K 108 [.ref a0, u1, u2, .int v3, .int v4, .int v5] [] S μ cc ss := by
  have ka0_0 : gw_kd S a0 = 3 := (hS0 0 _ rfl).1
  unfold F_X3_actOfOuter_108 at h
  refine hK _ _ _ _ _ _ _ ?_
  rw [fdX3_actOfOuter_108]
  simp only [gt_nil, true_and, eq_self, gt_aload_n, gt_rfk, gw_nth, gt_iload, gt_ink, gt_iload_n, gt_v0, gt_v1, gt_v2, gt_v3, gt_v4, gt_v5, gt_pop_i, gt_pop_r, gt_goto, bkX3_actOfOuter_108, ka0_0]
  obtain ⟨r_1, μ_2, e_3, h⟩ := gw_bnd2 h
  refine ⟨rfl, 0, 0, hcc, hss, ok_X3_touchByOuter hS0 e_3 ?_⟩
  simp only [gt_nil, true_and, eq_self, gt_pop_i, gt_pop_r, gt_goto, Option.toList, List.cons_append, List.nil_append, Nat.add_zero, ka0_0]
  refine hK _ _ _ _ _ _ _ ?_
  rw [fdX3_actOfOuter_221]
  simp only [gt_nil, true_and, eq_self, gt_vret, bkX3_actOfOuter_221, ka0_0]
  obtain rfl := gw_inj1 h
  exact ⟨hcc, hss, hq⟩
theorem ok_X3_actOfOuter {l : Launch} {x : gw_C} {d : Nat} {S : gw_S} {Q : Option Value → gw_S → gw_M → Prop} {a0 : Nat} {n0 : Nat} {μ : gw_M} {μ'} (hS0 : gw_sh S 3 a0) (h : F_X3_actOfOuter n0 a0 μ = some μ') (hq : Q none S μ') : gw_ok l x (d + 5) sgX3_actOfOuter 0 0 [.ref a0] S μ Q := by
  refine gw_ok_of stX3_actOfOuter (lv0 := [.ref a0, .retAddr 0, .retAddr 0, .retAddr 0, .retAddr 0, .retAddr 0]) (Nat.le_of_ble_eq_true rfl) rfl rfl ?_
  intro K hK
  have hcc : 0 ≤ 0 := Nat.zero_le _
  have hss : 0 ≤ 0 := Nat.zero_le _
  have ka0_0 : gw_kd S a0 = 3 := (hS0 0 _ rfl).1
  have ra0_0_3 : gw_rf S a0 3 = a0 + 12 := (hS0 0 _ rfl).2.2 (3, 12) (by decide)
  have ka0_12 : gw_kd S (a0 + 12) = 0 := (hS0 12 _ rfl).1
  have ra0_12_0 : gw_rf S (a0 + 12) 0 = a0 + 13 := (hS0 12 _ rfl).2.2 (0, 13) (by decide)
  have ka0_13 : gw_kd S (a0 + 13) = 7 := (hS0 13 _ rfl).1
  have ra0_13_0 : gw_rf S (a0 + 13) 0 = a0 + 14 := (hS0 13 _ rfl).2.2 (0, 14) (by decide)
  have ra0_13_1 : gw_rf S (a0 + 13) 1 = a0 + 15 := (hS0 13 _ rfl).2.2 (1, 15) (by decide)
  have ra0_13_2 : gw_rf S (a0 + 13) 2 = a0 + 16 := (hS0 13 _ rfl).2.2 (2, 16) (by decide)
  have ka0_14 : gw_kd S (a0 + 14) = 12 := (hS0 14 _ rfl).1
  have la0_14 : gw_ln S (a0 + 14) = 24 := (hS0 14 _ rfl).2.1
  have ka0_15 : gw_kd S (a0 + 15) = 12 := (hS0 15 _ rfl).1
  have la0_15 : gw_ln S (a0 + 15) = 24 := (hS0 15 _ rfl).2.1
  have ka0_16 : gw_kd S (a0 + 16) = 12 := (hS0 16 _ rfl).1
  have la0_16 : gw_ln S (a0 + 16) = 24 := (hS0 16 _ rfl).2.1
  unfold F_X3_actOfOuter at h
  refine hK _ _ _ _ _ _ _ ?_
  rw [fdX3_actOfOuter_0]
  simp only [gt_nil, true_and, eq_self, gt_aload_n, gt_rfk, gw_nth, gt_get_r, gt_get_i, gt_get_z, gt_astore_n, gw_set, gt_if, gt_vret, bkX3_actOfOuter_0, ka0_0, ra0_0_3, ka0_12, ra0_12_0, ka0_13, ra0_13_0, ra0_13_1, ra0_13_2, ka0_14, la0_14, ka0_15, la0_15, ka0_16, la0_16]
  refine ⟨fun c_1 => ?_, fun c_1 => ?_⟩
  · replace h := gw_ifp h c_1
    refine hK _ _ _ _ _ _ _ ?_
    rw [fdX3_actOfOuter_16]
    simp only [gt_nil, true_and, eq_self, gt_aload_n, gt_rfk, gw_nth, gt_v0, gt_v1, gt_v2, gt_v3, gt_v4, gt_v5, gt_istore_n, gw_set, gt_get_r, gt_get_i, gt_get_z, gt_iload_n, gt_ink, gt_iaload, gt_istore, gt_tsw, gw_sw, bkX3_actOfOuter_16, ka0_0, ra0_0_3, ka0_12, ra0_12_0, ka0_13, ra0_13_0, ra0_13_1, ra0_13_2, ka0_14, la0_14, ka0_15, la0_15, ka0_16, la0_16]
    obtain ⟨r_2, μ_3, e_4, h⟩ := gw_bnd2 h
    refine ⟨rfl, 0, 0, hcc, hss, ok_X7_advance (gw_sub hS0 7 13 (by decide +kernel)) e_4 ?_⟩
    simp only [gt_nil, true_and, eq_self, gt_istore_n, gw_set, gt_aload_n, gt_rfk, gw_nth, gt_get_r, gt_get_i, gt_get_z, gt_iload_n, gt_ink, gt_iaload, gt_istore, gt_tsw, gw_sw, Option.toList, List.cons_append, List.nil_append, Nat.add_zero, ka0_0, ra0_0_3, ka0_12, ra0_12_0, ka0_13, ra0_13_0, ra0_13_1, ra0_13_2, ka0_14, la0_14, ka0_15, la0_15, ka0_16, la0_16]
    obtain ⟨c_6, h⟩ := gw_ife h
    refine ⟨c_6, ?_⟩
    obtain ⟨w_7, hw_7, h⟩ := gw_lt h
    try rw [← hw_7]
    obtain ⟨c_8, h⟩ := gw_ife h
    refine ⟨c_8, ?_⟩
    obtain ⟨w_9, hw_9, h⟩ := gw_lt h
    try rw [← hw_9]
    obtain ⟨c_10, h⟩ := gw_ife h
    refine ⟨c_10, ?_⟩
    obtain ⟨w_11, hw_11, h⟩ := gw_lt h
    try rw [← hw_11]
    refine ⟨fun c_12 => ?_, fun c_12 => ?_⟩
    · replace h := gw_ifp h c_12
      exact B_X3_actOfOuter_108 hcc hss hK hS0 h hq
    replace h := gw_ifn h c_12
    refine ⟨fun c_13 => ?_, fun c_13 => ?_⟩
    · replace h := gw_ifp h c_13
      exact B_X3_actOfOuter_108 hcc hss hK hS0 h hq
    replace h := gw_ifn h c_13
    refine ⟨fun c_14 => ?_, fun c_14 => ?_⟩
    · replace h := gw_ifp h c_14
      exact B_X3_actOfOuter_108 hcc hss hK hS0 h hq
    replace h := gw_ifn h c_14
    refine ⟨fun c_15 => ?_, fun c_15 => ?_⟩
    · replace h := gw_ifp h c_15
      refine hK _ _ _ _ _ _ _ ?_
      rw [fdX3_actOfOuter_121]
      simp only [gt_nil, true_and, eq_self, gt_aload_n, gt_rfk, gw_nth, gt_iload, gt_ink, gt_v0, gt_v1, gt_v2, gt_v3, gt_v4, gt_v5, gt_pop_i, gt_pop_r, gt_goto, bkX3_actOfOuter_121, ka0_0, ra0_0_3, ka0_12, ra0_12_0, ka0_13, ra0_13_0, ra0_13_1, ra0_13_2, ka0_14, la0_14, ka0_15, la0_15, ka0_16, la0_16]
      obtain ⟨r_16, μ_17, e_18, h⟩ := gw_bnd2 h
      refine ⟨rfl, 0, 0, hcc, hss, ok_X3_eventOfOuter hS0 e_18 ?_⟩
      simp only [gt_nil, true_and, eq_self, gt_pop_i, gt_pop_r, gt_goto, Option.toList, List.cons_append, List.nil_append, Nat.add_zero, ka0_0, ra0_0_3, ka0_12, ra0_12_0, ka0_13, ra0_13_0, ra0_13_1, ra0_13_2, ka0_14, la0_14, ka0_15, la0_15, ka0_16, la0_16]
      refine hK _ _ _ _ _ _ _ ?_
      rw [fdX3_actOfOuter_221]
      simp only [gt_nil, true_and, eq_self, gt_vret, bkX3_actOfOuter_221, ka0_0, ra0_0_3, ka0_12, ra0_12_0, ka0_13, ra0_13_0, ra0_13_1, ra0_13_2, ka0_14, la0_14, ka0_15, la0_15, ka0_16, la0_16]
      obtain rfl := gw_inj1 h
      exact ⟨hcc, hss, hq⟩
    replace h := gw_ifn h c_15
    refine ⟨fun c_20 => ?_, fun c_20 => ?_⟩
    · replace h := gw_ifp h c_20
      refine hK _ _ _ _ _ _ _ ?_
      rw [fdX3_actOfOuter_131]
      simp only [gt_nil, true_and, eq_self, gt_aload_n, gt_rfk, gw_nth, gt_get_r, gt_get_i, gt_get_z, gt_iconst, gt_put_i, gt_putz, gt_goto, bkX3_actOfOuter_131, ka0_0, ra0_0_3, ka0_12, ra0_12_0, ka0_13, ra0_13_0, ra0_13_1, ra0_13_2, ka0_14, la0_14, ka0_15, la0_15, ka0_16, la0_16]
      refine ⟨(Or.inr rfl), ?_⟩
      obtain ⟨μ_21, hμ_21, h⟩ := gw_lt h
      try rw [← hμ_21]
      refine hK _ _ _ _ _ _ _ ?_
      rw [fdX3_actOfOuter_221]
      simp only [gt_nil, true_and, eq_self, gt_vret, bkX3_actOfOuter_221, ka0_0, ra0_0_3, ka0_12, ra0_12_0, ka0_13, ra0_13_0, ra0_13_1, ra0_13_2, ka0_14, la0_14, ka0_15, la0_15, ka0_16, la0_16]
      obtain rfl := gw_inj1 h
      exact ⟨hcc, hss, hq⟩
    replace h := gw_ifn h c_20
    refine ⟨fun c_22 => ?_, fun c_22 => ?_⟩
    · replace h := gw_ifp h c_22
      refine hK _ _ _ _ _ _ _ ?_
      rw [fdX3_actOfOuter_142]
      simp only [gt_nil, true_and, eq_self, gt_aload_n, gt_rfk, gw_nth, gt_get_r, gt_get_i, gt_get_z, gt_iconst, gt_put_i, gt_putz, gt_goto, bkX3_actOfOuter_142, ka0_0, ra0_0_3, ka0_12, ra0_12_0, ka0_13, ra0_13_0, ra0_13_1, ra0_13_2, ka0_14, la0_14, ka0_15, la0_15, ka0_16, la0_16]
      refine ⟨(Or.inl rfl), ?_⟩
      obtain ⟨μ_23, hμ_23, h⟩ := gw_lt h
      try rw [← hμ_23]
      refine hK _ _ _ _ _ _ _ ?_
      rw [fdX3_actOfOuter_221]
      simp only [gt_nil, true_and, eq_self, gt_vret, bkX3_actOfOuter_221, ka0_0, ra0_0_3, ka0_12, ra0_12_0, ka0_13, ra0_13_0, ra0_13_1, ra0_13_2, ka0_14, la0_14, ka0_15, la0_15, ka0_16, la0_16]
      obtain rfl := gw_inj1 h
      exact ⟨hcc, hss, hq⟩
    replace h := gw_ifn h c_22
    refine ⟨fun c_24 => ?_, fun c_24 => ?_⟩
    · replace h := gw_ifp h c_24
      refine hK _ _ _ _ _ _ _ ?_
      rw [fdX3_actOfOuter_153]
      simp only [gt_nil, true_and, eq_self, gt_aload_n, gt_rfk, gw_nth, gt_v0, gt_v1, gt_v2, gt_v3, gt_v4, gt_v5, gt_goto, bkX3_actOfOuter_153, ka0_0, ra0_0_3, ka0_12, ra0_12_0, ka0_13, ra0_13_0, ra0_13_1, ra0_13_2, ka0_14, la0_14, ka0_15, la0_15, ka0_16, la0_16]
      obtain ⟨μ_26, e_27, h⟩ := gw_bnd h
      refine ⟨rfl, 0, 0, hcc, hss, ok_X3_enterInner hS0 e_27 ?_⟩
      simp only [gt_nil, true_and, eq_self, gt_goto, Option.toList, List.cons_append, List.nil_append, Nat.add_zero, ka0_0, ra0_0_3, ka0_12, ra0_12_0, ka0_13, ra0_13_0, ra0_13_1, ra0_13_2, ka0_14, la0_14, ka0_15, la0_15, ka0_16, la0_16]
      refine hK _ _ _ _ _ _ _ ?_
      rw [fdX3_actOfOuter_221]
      simp only [gt_nil, true_and, eq_self, gt_vret, bkX3_actOfOuter_221, ka0_0, ra0_0_3, ka0_12, ra0_12_0, ka0_13, ra0_13_0, ra0_13_1, ra0_13_2, ka0_14, la0_14, ka0_15, la0_15, ka0_16, la0_16]
      obtain rfl := gw_inj1 h
      exact ⟨hcc, hss, hq⟩
    replace h := gw_ifn h c_24
    refine ⟨fun c_29 => ?_, fun c_29 => ?_⟩
    · replace h := gw_ifp h c_29
      refine hK _ _ _ _ _ _ _ ?_
      rw [fdX3_actOfOuter_160]
      simp only [gt_nil, true_and, eq_self, gt_aload_n, gt_rfk, gw_nth, gt_iload, gt_ink, gt_bipush, gt_v0, gt_v1, gt_v2, gt_v3, gt_v4, gt_v5, gt_goto, bkX3_actOfOuter_160, ka0_0, ra0_0_3, ka0_12, ra0_12_0, ka0_13, ra0_13_0, ra0_13_1, ra0_13_2, ka0_14, la0_14, ka0_15, la0_15, ka0_16, la0_16]
      obtain ⟨μ_31, e_32, h⟩ := gw_bnd h
      refine ⟨rfl, 0, 0, hcc, hss, ok_X3_tellInner hS0 e_32 ?_⟩
      simp only [gt_nil, true_and, eq_self, gt_goto, Option.toList, List.cons_append, List.nil_append, Nat.add_zero, ka0_0, ra0_0_3, ka0_12, ra0_12_0, ka0_13, ra0_13_0, ra0_13_1, ra0_13_2, ka0_14, la0_14, ka0_15, la0_15, ka0_16, la0_16]
      refine hK _ _ _ _ _ _ _ ?_
      rw [fdX3_actOfOuter_221]
      simp only [gt_nil, true_and, eq_self, gt_vret, bkX3_actOfOuter_221, ka0_0, ra0_0_3, ka0_12, ra0_12_0, ka0_13, ra0_13_0, ra0_13_1, ra0_13_2, ka0_14, la0_14, ka0_15, la0_15, ka0_16, la0_16]
      obtain rfl := gw_inj1 h
      exact ⟨hcc, hss, hq⟩
    replace h := gw_ifn h c_29
    refine ⟨fun c_34 => ?_, fun c_34 => ?_⟩
    · replace h := gw_ifp h c_34
      refine hK _ _ _ _ _ _ _ ?_
      rw [fdX3_actOfOuter_173]
      simp only [gt_nil, true_and, eq_self, gt_aload_n, gt_rfk, gw_nth, gt_v0, gt_v1, gt_v2, gt_v3, gt_v4, gt_v5, gt_get_r, gt_get_i, gt_get_z, gt_iload, gt_ink, gt_goto, bkX3_actOfOuter_173, ka0_0, ra0_0_3, ka0_12, ra0_12_0, ka0_13, ra0_13_0, ra0_13_1, ra0_13_2, ka0_14, la0_14, ka0_15, la0_15, ka0_16, la0_16]
      obtain ⟨r_35, e_37, h⟩ := gw_bnd h
      refine ⟨rfl, 0, 0, hcc, hss, ok_X3_inHand hS0 e_37 ?_⟩
      intro hsr_35
      have kr_35_0 : gw_kd S r_35 = 1 := (hsr_35 0 _ rfl).1
      have rr_35_0_0 : gw_rf S r_35 0 = r_35 + 1 := (hsr_35 0 _ rfl).2.2 (0, 1) (by decide)
      have kr_35_1 : gw_kd S (r_35 + 1) = 0 := (hsr_35 1 _ rfl).1
      simp only [gt_nil, true_and, eq_self, gt_get_r, gt_get_i, gt_get_z, gt_iload, gt_ink, gw_nth, gt_aload_n, gt_rfk, gt_v0, gt_v1, gt_v2, gt_v3, gt_v4, gt_v5, gt_goto, Option.toList, List.cons_append, List.nil_append, Nat.add_zero, ka0_0, ra0_0_3, ka0_12, ra0_12_0, ka0_13, ra0_13_0, ra0_13_1, ra0_13_2, ka0_14, la0_14, ka0_15, la0_15, ka0_16, la0_16, kr_35_0, rr_35_0_0, kr_35_1]
      obtain ⟨μ_40, e_41, h⟩ := gw_bnd h
      refine ⟨rfl, 0, 0, hcc, hss, ok_X0_await (gw_sub hsr_35 0 1 (by decide +kernel)) e_41 ?_⟩
      simp only [gt_nil, true_and, eq_self, gt_goto, Option.toList, List.cons_append, List.nil_append, Nat.add_zero, ka0_0, ra0_0_3, ka0_12, ra0_12_0, ka0_13, ra0_13_0, ra0_13_1, ra0_13_2, ka0_14, la0_14, ka0_15, la0_15, ka0_16, la0_16, kr_35_0, rr_35_0_0, kr_35_1]
      refine hK _ _ _ _ _ _ _ ?_
      rw [fdX3_actOfOuter_221]
      simp only [gt_nil, true_and, eq_self, gt_vret, bkX3_actOfOuter_221, ka0_0, ra0_0_3, ka0_12, ra0_12_0, ka0_13, ra0_13_0, ra0_13_1, ra0_13_2, ka0_14, la0_14, ka0_15, la0_15, ka0_16, la0_16, kr_35_0, rr_35_0_0, kr_35_1]
      obtain rfl := gw_inj1 h
      exact ⟨hcc, hss, hq⟩
    replace h := gw_ifn h c_34
    refine ⟨fun c_43 => ?_, fun c_43 => ?_⟩
    · replace h := gw_ifp h c_43
      refine hK _ _ _ _ _ _ _ ?_
      rw [fdX3_actOfOuter_192]
      simp only [gt_nil, true_and, eq_self, gt_aload_n, gt_rfk, gw_nth, gt_iload, gt_ink, gt_v0, gt_v1, gt_v2, gt_v3, gt_v4, gt_v5, gt_goto, bkX3_actOfOuter_192, ka0_0, ra0_0_3, ka0_12, ra0_12_0, ka0_13, ra0_13_0, ra0_13_1, ra0_13_2, ka0_14, la0_14, ka0_15, la0_15, ka0_16, la0_16]
      obtain ⟨μ_45, e_46, h⟩ := gw_bnd h
      refine ⟨rfl, 0, 0, hcc, hss, ok_X3_tellMissed hS0 e_46 ?_⟩
      simp only [gt_nil, true_and, eq_self, gt_goto, Option.toList, List.cons_append, List.nil_append, Nat.add_zero, ka0_0, ra0_0_3, ka0_12, ra0_12_0, ka0_13, ra0_13_0, ra0_13_1, ra0_13_2, ka0_14, la0_14, ka0_15, la0_15, ka0_16, la0_16]
      refine hK _ _ _ _ _ _ _ ?_
      rw [fdX3_actOfOuter_221]
      simp only [gt_nil, true_and, eq_self, gt_vret, bkX3_actOfOuter_221, ka0_0, ra0_0_3, ka0_12, ra0_12_0, ka0_13, ra0_13_0, ra0_13_1, ra0_13_2, ka0_14, la0_14, ka0_15, la0_15, ka0_16, la0_16]
      obtain rfl := gw_inj1 h
      exact ⟨hcc, hss, hq⟩
    replace h := gw_ifn h c_43
    refine ⟨fun c_48 => ?_, fun c_48 => ?_⟩
    · replace h := gw_ifp h c_48
      refine hK _ _ _ _ _ _ _ ?_
      rw [fdX3_actOfOuter_201]
      simp only [gt_nil, true_and, eq_self, gt_aload_n, gt_rfk, gw_nth, gt_get_r, gt_get_i, gt_get_z, gt_v0, gt_v1, gt_v2, gt_v3, gt_v4, gt_v5, gt_pop_i, gt_pop_r, gt_goto, bkX3_actOfOuter_201, ka0_0, ra0_0_3, ka0_12, ra0_12_0, ka0_13, ra0_13_0, ra0_13_1, ra0_13_2, ka0_14, la0_14, ka0_15, la0_15, ka0_16, la0_16]
      obtain ⟨r_49, μ_50, e_51, h⟩ := gw_bnd2 h
      refine ⟨rfl, 0, 0, hcc, hss, ok_X0_endService (gw_sub hS0 0 12 (by decide +kernel)) e_51 ?_⟩
      simp only [gt_nil, true_and, eq_self, gt_pop_i, gt_pop_r, gt_goto, Option.toList, List.cons_append, List.nil_append, Nat.add_zero, ka0_0, ra0_0_3, ka0_12, ra0_12_0, ka0_13, ra0_13_0, ra0_13_1, ra0_13_2, ka0_14, la0_14, ka0_15, la0_15, ka0_16, la0_16]
      refine hK _ _ _ _ _ _ _ ?_
      rw [fdX3_actOfOuter_221]
      simp only [gt_nil, true_and, eq_self, gt_vret, bkX3_actOfOuter_221, ka0_0, ra0_0_3, ka0_12, ra0_12_0, ka0_13, ra0_13_0, ra0_13_1, ra0_13_2, ka0_14, la0_14, ka0_15, la0_15, ka0_16, la0_16]
      obtain rfl := gw_inj1 h
      exact ⟨hcc, hss, hq⟩
    replace h := gw_ifn h c_48
    refine ⟨fun c_53 => ?_, fun c_53 => ?_⟩
    · replace h := gw_ifp h c_53
      refine hK _ _ _ _ _ _ _ ?_
      rw [fdX3_actOfOuter_212]
      simp only [gt_nil, true_and, eq_self, gt_aload_n, gt_rfk, gw_nth, gt_iload, gt_ink, gt_v0, gt_v1, gt_v2, gt_v3, gt_v4, gt_v5, gt_goto, bkX3_actOfOuter_212, ka0_0, ra0_0_3, ka0_12, ra0_12_0, ka0_13, ra0_13_0, ra0_13_1, ra0_13_2, ka0_14, la0_14, ka0_15, la0_15, ka0_16, la0_16]
      obtain ⟨μ_55, e_56, h⟩ := gw_bnd h
      refine ⟨rfl, 0, 0, hcc, hss, ok_X3_switchUnlessInHand hS0 e_56 ?_⟩
      simp only [gt_nil, true_and, eq_self, gt_goto, Option.toList, List.cons_append, List.nil_append, Nat.add_zero, ka0_0, ra0_0_3, ka0_12, ra0_12_0, ka0_13, ra0_13_0, ra0_13_1, ra0_13_2, ka0_14, la0_14, ka0_15, la0_15, ka0_16, la0_16]
      refine hK _ _ _ _ _ _ _ ?_
      rw [fdX3_actOfOuter_221]
      simp only [gt_nil, true_and, eq_self, gt_vret, bkX3_actOfOuter_221, ka0_0, ra0_0_3, ka0_12, ra0_12_0, ka0_13, ra0_13_0, ra0_13_1, ra0_13_2, ka0_14, la0_14, ka0_15, la0_15, ka0_16, la0_16]
      obtain rfl := gw_inj1 h
      exact ⟨hcc, hss, hq⟩
    replace h := gw_ifn h c_53
    refine hK _ _ _ _ _ _ _ ?_
    rw [fdX3_actOfOuter_221]
    simp only [gt_nil, true_and, eq_self, gt_vret, bkX3_actOfOuter_221, ka0_0, ra0_0_3, ka0_12, ra0_12_0, ka0_13, ra0_13_0, ra0_13_1, ra0_13_2, ka0_14, la0_14, ka0_15, la0_15, ka0_16, la0_16]
    obtain rfl := gw_inj1 h
    exact ⟨hcc, hss, hq⟩
  · replace h := gw_ifn h c_1
    obtain rfl := gw_inj1 h
    exact ⟨hcc, hss, hq⟩
