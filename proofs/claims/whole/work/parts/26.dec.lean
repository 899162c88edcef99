def F_X11_tillMore_66 (n0 : Nat) (a0 : Nat) (v3 : Int32) (s0 : Int32) (μ : gw_M) : Option (Int32 × gw_M) := (F_X11_bringBack n0 a0 μ).bind (fun (μ_2 : gw_M) => (if s0 = 0 then some ((-1), μ_2) else some (v3, μ_2)))
def F_X11_tillMore_51 (n0 : Nat) (a0 : Nat) (v1 : Int32) (v2 : Int32) (v3 : Int32) (μ : gw_M) : Option (Int32 × gw_M) := (if 0 ≤ v1 ∧ v1.toNatClampNeg < 20813 then (if (μ (a0 + 1) v1.toNatClampNeg) = v2 then F_X11_tillMore_66 n0 a0 v3 0 μ else F_X11_tillMore_66 n0 a0 v3 1 μ) else none)
def F_X11_tillMore_13 (n0 : Nat) (a0 : Nat) : Nat → Int32 → Int32 → Int32 → gw_M → Option (Int32 × gw_M)
  | 0, _, _, _, _ => none
  | n + 1, v1, v2, v3, μ => (if 200 ≤ v3 then F_X11_tillMore_51 n0 a0 v1 v2 v3 μ else (if 99999 ≤ (μ (a0 + 1) 3) then F_X11_tillMore_51 n0 a0 v1 v2 v3 μ else (if 0 ≤ v1 ∧ v1.toNatClampNeg < 20813 then (if ¬ (μ (a0 + 1) v1.toNatClampNeg) = v2 then F_X11_tillMore_51 n0 a0 v1 v2 v3 μ else (F_X11_goNow n0 a0 μ).bind (fun (μ_6 : gw_M) => gw_let (v3 + 1) (fun (w_9 : Int32) => F_X11_tillMore_13 n0 a0 n v1 v2 w_9 μ_6))) else none)))
def F_X11_tillMore (n0 : Nat) (a0 : Nat) (v1 : Int32) (μ : gw_M) : Option (Int32 × gw_M) := (if 0 ≤ v1 ∧ v1.toNatClampNeg < 20813 then gw_let ((μ (a0 + 1) v1.toNatClampNeg)) (fun (w_2 : Int32) => (F_X11_putAside n0 a0 μ).bind (fun (μ_4 : gw_M) => F_X11_tillMore_13 n0 a0 n0 v1 w_2 0 μ_4)) else none)
theorem B_X11_tillMore_66 {l : Launch} {x : gw_C} {d : Nat} {S : gw_S} {Q : Option Value → gw_S → gw_M → Prop} {K : Nat → gw_Kt} {mc ms cc ss : Nat} (hcc : cc ≤ mc) (hss : ss ≤ ms) (hK : gw_cl l x (d + 13) mc ms bsX11_tillMore Q K) {a0 : Nat} (hS0 : gw_sh S 11 a0) {n0 : Nat} {v3 s0} {u1 u2 u4 : Value} {μ : gw_M} {r μ'} (h : F_X11_tillMore_66 n0 a0 v3 s0 μ = some (r, μ')) (hq : Q (some (.int r)) S μ') : K 66 [.ref a0, u1, u2, .int v3, u4] [.int s0] S μ cc ss := by
  have ka0_0 : gw_kd S a0 = 11 := (hS0 0 _ rfl).1
  unfold F_X11_tillMore_66 at h
  refine hK _ _ _ _ _ _ _ ?_
  rw [fdX11_tillMore_66]
  simp only [gt_nil, true_and, eq_self, gt_istore, gw_set, gt_aload_n, gt_rfk, gw_nth, gt_v0, gt_v1, gt_v2, gt_v3, gt_v4, gt_v5, gt_iload, gt_ink, gt_if, gt_iload_n, gt_goto, bkX11_tillMore_66, ka0_0]
  obtain ⟨μ_2, e_3, h⟩ := gw_bnd h
  refine ⟨rfl, 0, 0, hcc, hss, ok_X11_bringBack hS0 e_3 ?_⟩
  simp only [gt_nil, true_and, eq_self, gt_iload, gt_ink, gw_nth, gt_if, gt_iload_n, gt_goto, Option.toList, List.cons_append, List.nil_append, Nat.add_zero, ka0_0]
  refine ⟨fun c_5 => ?_, fun c_5 => ?_⟩
  · replace h := gw_ifp h c_5
    refine hK _ _ _ _ _ _ _ ?_
    rw [fdX11_tillMore_81]
    simp only [gt_nil, true_and, eq_self, gt_iconst, bkX11_tillMore_81, ka0_0]
    refine hK _ _ _ _ _ _ _ ?_
    rw [fdX11_tillMore_82]
    simp only [gt_nil, true_and, eq_self, gt_iret, gt_retz, bkX11_tillMore_82, ka0_0]
    obtain ⟨rfl, rfl⟩ := gw_inj2 h
    exact ⟨hcc, hss, hq⟩
  · replace h := gw_ifn h c_5
    refine hK _ _ _ _ _ _ _ ?_
    rw [fdX11_tillMore_82]
    simp only [gt_nil, true_and, eq_self, gt_iret, gt_retz, bkX11_tillMore_82, ka0_0]
    obtain ⟨rfl, rfl⟩ := gw_inj2 h
    exact ⟨hcc, hss, hq⟩
theorem B_X11_tillMore_51 {l : Launch} {x : gw_C} {d : Nat} {S : gw_S} {Q : Option Value → gw_S → gw_M → Prop} {K : Nat → gw_Kt} {mc ms cc ss : Nat} (hcc : cc ≤ mc) (hss : ss ≤ ms) (hK : gw_cl l x (d + 13) mc ms bsX11_tillMore Q K) {a0 : Nat} (hS0 : gw_sh S 11 a0) {n0 : Nat} {v1 v2 v3} {u4 : Value} {μ : gw_M} {r μ'} (h : F_X11_tillMore_51 n0 a0 v1 v2 v3 μ = some (r, μ')) (hq : Q (some (.int r)) S μ') : K 51 [.ref a0, .int v1, .int v2, .int v3, u4] [] S μ cc ss := by
  have ka0_0 : gw_kd S a0 = 11 := (hS0 0 _ rfl).1
  have ra0_0_0 : gw_rf S a0 0 = a0 + 1 := (hS0 0 _ rfl).2.2 (0, 1) (by decide)
  have ka0_1 : gw_kd S (a0 + 1) = 12 := (hS0 1 _ rfl).1
  have la0_1 : gw_ln S (a0 + 1) = 20813 := (hS0 1 _ rfl).2.1
  unfold F_X11_tillMore_51 at h
  refine hK _ _ _ _ _ _ _ ?_
  rw [fdX11_tillMore_51]
  simp only [gt_nil, true_and, eq_self, gt_aload_n, gt_rfk, gw_nth, gt_get_r, gt_get_i, gt_get_z, gt_iload_n, gt_ink, gt_iaload, gt_icmp, gt_iconst, gt_goto, bkX11_tillMore_51, ka0_0, ra0_0_0, ka0_1, la0_1]
  obtain ⟨c_1, h⟩ := gw_ife h
  refine ⟨c_1, ?_⟩
  refine ⟨fun c_2 => ?_, fun c_2 => ?_⟩
  · replace h := gw_ifp2 (gw_c2_eq _ _) h c_2
    refine hK _ _ _ _ _ _ _ ?_
    rw [fdX11_tillMore_65]
    simp only [gt_nil, true_and, eq_self, gt_iconst, bkX11_tillMore_65, ka0_0, ra0_0_0, ka0_1, la0_1]
    exact B_X11_tillMore_66 hcc hss hK hS0 h hq
  · replace h := gw_ifn2 (gw_c2_eq _ _) h c_2
    exact B_X11_tillMore_66 hcc hss hK hS0 h hq
theorem B_X11_tillMore_13 {l : Launch} {x : gw_C} {d : Nat} {S : gw_S} {Q : Option Value → gw_S → gw_M → Prop} {K : Nat → gw_Kt} {mc ms cc ss : Nat} (hcc : cc ≤ mc) (hss : ss ≤ ms) (hK : gw_cl l x (d + 13) mc ms bsX11_tillMore Q K) {a0 : Nat} (hS0 : gw_sh S 11 a0) {n0 : Nat} : ∀ {n : Nat} {v1 v2 v3} {u4 : Value} {μ : gw_M} {r μ'}, F_X11_tillMore_13 n0 a0 n v1 v2 v3 μ = some (r, μ') → Q (some (.int r)) S μ' → K 13 [.ref a0, .int v1, .int v2, .int v3, u4] [] S μ cc ss := by
  have ka0_0 : gw_kd S a0 = 11 := (hS0 0 _ rfl).1
  have ra0_0_0 : gw_rf S a0 0 = a0 + 1 := (hS0 0 _ rfl).2.2 (0, 1) (by decide)
  have ka0_1 : gw_kd S (a0 + 1) = 12 := (hS0 1 _ rfl).1
  have la0_1 : gw_ln S (a0 + 1) = 20813 := (hS0 1 _ rfl).2.1
  intro n
  induction n with
  | zero => intro v1 v2 v3 u4 μ r μ' h hq; simp [F_X11_tillMore_13] at h
  | succ n ih =>
    intro v1 v2 v3 u4 μ r μ' h hq
    simp only [F_X11_tillMore_13] at h
    refine hK _ _ _ _ _ _ _ ?_
    rw [fdX11_tillMore_13]
    simp only [gt_nil, true_and, eq_self, gt_iload_n, gt_ink, gw_nth, gt_sipush, gt_icmp, gt_aload_n, gt_rfk, gt_get_r, gt_get_i, gt_get_z, gt_iconst, gt_iaload, gt_ldc, gt_v0, gt_v1, gt_v2, gt_v3, gt_v4, gt_v5, gt_iinc, gw_set, gt_goto, bkX11_tillMore_13, ka0_0, ra0_0_0, ka0_1, la0_1, (show Int32.toNatClampNeg 3 = 3 from rfl)]
    refine ⟨fun c_1 => ?_, fun c_1 => ?_⟩
    · replace h := gw_ifp2 (gw_c2_ge _ _) h c_1
      exact B_X11_tillMore_51 hcc hss hK hS0 h hq
    · replace h := gw_ifn2 (gw_c2_ge _ _) h c_1
      refine ⟨(⟨by decide, by decide⟩ : gw_in 3 20813), ?_⟩
      refine ⟨fun c_2 => ?_, fun c_2 => ?_⟩
      · replace h := gw_ifp2 (gw_c2_ge _ _) h c_2
        exact B_X11_tillMore_51 hcc hss hK hS0 h hq
      · replace h := gw_ifn2 (gw_c2_ge _ _) h c_2
        obtain ⟨c_3, h⟩ := gw_ife h
        refine ⟨c_3, ?_⟩
        refine ⟨fun c_4 => ?_, fun c_4 => ?_⟩
        · replace h := gw_ifp2 (gw_c2_ne _ _) h c_4
          exact B_X11_tillMore_51 hcc hss hK hS0 h hq
        · replace h := gw_ifn2 (gw_c2_ne _ _) h c_4
          obtain ⟨μ_6, e_7, h⟩ := gw_bnd h
          refine ⟨rfl, 0, 0, hcc, hss, ok_X11_goNow hS0 e_7 ?_⟩
          simp only [gt_nil, true_and, eq_self, gt_iinc, gt_ink, gw_nth, gw_set, gt_goto, Option.toList, List.cons_append, List.nil_append, Nat.add_zero, ka0_0, ra0_0_0, ka0_1, la0_1, (show Int32.toNatClampNeg 3 = 3 from rfl)]
          obtain ⟨w_9, hw_9, h⟩ := gw_lt h
          try rw [← hw_9]
          exact ih h hq
theorem ok_X11_tillMore {l : Launch} {x : gw_C} {d : Nat} {S : gw_S} {Q : Option Value → gw_S → gw_M → Prop} {v1 : Int32} {a0 : Nat} {n0 : Nat} {μ : gw_M} {r μ'} (hS0 : gw_sh S 11 a0) (h : F_X11_tillMore n0 a0 v1 μ = some (r, μ')) (hq : Q (some (.int r)) S μ') : gw_ok l x (d + 14) sgX11_tillMore 0 0 [.ref a0, .int v1] S μ Q := by
  refine gw_ok_of stX11_tillMore (lv0 := [.ref a0, .int v1, .retAddr 0, .retAddr 0, .retAddr 0]) (Nat.le_of_ble_eq_true rfl) rfl rfl ?_
  intro K hK
  have hcc : 0 ≤ 0 := Nat.zero_le _
  have hss : 0 ≤ 0 := Nat.zero_le _
  have ka0_0 : gw_kd S a0 = 11 := (hS0 0 _ rfl).1
  have ra0_0_0 : gw_rf S a0 0 = a0 + 1 := (hS0 0 _ rfl).2.2 (0, 1) (by decide)
  have ka0_1 : gw_kd S (a0 + 1) = 12 := (hS0 1 _ rfl).1
  have la0_1 : gw_ln S (a0 + 1) = 20813 := (hS0 1 _ rfl).2.1
  unfold F_X11_tillMore at h
  refine hK _ _ _ _ _ _ _ ?_
  rw [fdX11_tillMore_0]
  simp only [gt_nil, true_and, eq_self, gt_aload_n, gt_rfk, gw_nth, gt_get_r, gt_get_i, gt_get_z, gt_iload_n, gt_ink, gt_iaload, gt_istore_n, gw_set, gt_iconst, gt_v0, gt_v1, gt_v2, gt_v3, gt_v4, gt_v5, bkX11_tillMore_0, ka0_0, ra0_0_0, ka0_1, la0_1]
  obtain ⟨c_1, h⟩ := gw_ife h
  refine ⟨c_1, ?_⟩
  obtain ⟨w_2, hw_2, h⟩ := gw_lt h
  try rw [← hw_2]
  obtain ⟨μ_4, e_5, h⟩ := gw_bnd h
  refine ⟨rfl, 0, 0, hcc, hss, ok_X11_putAside hS0 e_5 ?_⟩
  simp only [gt_nil, true_and, eq_self, Option.toList, List.cons_append, List.nil_append, Nat.add_zero, ka0_0, ra0_0_0, ka0_1, la0_1]
  exact B_X11_tillMore_13 hcc hss hK hS0 h hq
def F_X11_till (n0 : Nat) (a0 : Nat) (μ : gw_M) : Option (Int32 × gw_M) := (gw_bi (F_X11_tillMore n0 a0 6 μ) (fun (r_1 : Int32) (μ_2 : gw_M) => some (r_1, μ_2)))
theorem ok_X11_till {l : Launch} {x : gw_C} {d : Nat} {S : gw_S} {Q : Option Value → gw_S → gw_M → Prop} {a0 : Nat} {n0 : Nat} {μ : gw_M} {r μ'} (hS0 : gw_sh S 11 a0) (h : F_X11_till n0 a0 μ = some (r, μ')) (hq : Q (some (.int r)) S μ') : gw_ok l x (d + 15) sgX11_till 0 0 [.ref a0] S μ Q := by
  refine gw_ok_of stX11_till (lv0 := [.ref a0]) (Nat.le_of_ble_eq_true rfl) rfl rfl ?_
  intro K hK
  have hcc : 0 ≤ 0 := Nat.zero_le _
  have hss : 0 ≤ 0 := Nat.zero_le _
  have ka0_0 : gw_kd S a0 = 11 := (hS0 0 _ rfl).1
  unfold F_X11_till at h
  refine hK _ _ _ _ _ _ _ ?_
  rw [fdX11_till_0]
  simp only [gt_nil, true_and, eq_self, gt_aload_n, gt_rfk, gw_nth, gt_bipush, gt_v0, gt_v1, gt_v2, gt_v3, gt_v4, gt_v5, gt_iret, gt_retz, bkX11_till_0, ka0_0]
  obtain ⟨r_1, μ_2, e_3, h⟩ := gw_bnd2 h
  refine ⟨rfl, 0, 0, hcc, hss, ok_X11_tillMore hS0 e_3 ?_⟩
  simp only [gt_nil, true_and, eq_self, gt_iret, gt_retz, Option.toList, List.cons_append, List.nil_append, Nat.add_zero, ka0_0]
  obtain ⟨rfl, rfl⟩ := gw_inj2 h
  exact ⟨hcc, hss, hq⟩
def F_X11_waits (n0 : Nat) (a0 : Nat) (v1 : Int32) (μ : gw_M) : Option (Int32 × gw_M) := (F_X11_isGuest n0 v1 μ).bind (fun (r_1 : Int32) => (if r_1 = 0 then some ((-1), μ) else (gw_bi (F_X11_tillMore n0 a0 (((9 : Int32) + v1) - (1 : Int32)) μ) (fun (r_6 : Int32) (μ_7 : gw_M) => some (r_6, μ_7)))))
theorem ok_X11_waits {l : Launch} {x : gw_C} {d : Nat} {S : gw_S} {Q : Option Value → gw_S → gw_M → Prop} {v1 : Int32} {a0 : Nat} {n0 : Nat} {μ : gw_M} {r μ'} (hS0 : gw_sh S 11 a0) (h : F_X11_waits n0 a0 v1 μ = some (r, μ')) (hq : Q (some (.int r)) S μ') : gw_ok l x (d + 15) sgX11_waits 0 0 [.ref a0, .int v1] S μ Q := by
  refine gw_ok_of stX11_waits (lv0 := [.ref a0, .int v1]) (Nat.le_of_ble_eq_true rfl) rfl rfl ?_
  intro K hK
  have hcc : 0 ≤ 0 := Nat.zero_le _
  have hss : 0 ≤ 0 := Nat.zero_le _
  have ka0_0 : gw_kd S a0 = 11 := (hS0 0 _ rfl).1
  unfold F_X11_waits at h
  refine hK _ _ _ _ _ _ _ ?_
  rw [fdX11_waits_0]
  simp only [gt_nil, true_and, eq_self, gt_iload_n, gt_ink, gw_nth, gt_s1_0, gt_s2_0, gt_s3_0, gt_s4_0, gt_s1_1, gt_s2_1, gt_s3_1, gt_s4_1, gt_acpy, gt_if, gt_aload_n, gt_rfk, gt_bipush, gt_iadd, gt_iconst, gt_isub, gt_v0, gt_v1, gt_v2, gt_v3, gt_v4, gt_v5, gt_goto, bkX11_waits_0, ka0_0]
  obtain ⟨r_1, e_3, h⟩ := gw_bnd h
  refine ⟨rfl, 0, 0, hcc, hss, ok_X11_isGuest e_3 ?_⟩
  intro hbr_1
  simp only [gt_nil, true_and, eq_self, gt_if, gt_aload_n, gt_rfk, gw_nth, gt_bipush, gt_iload_n, gt_ink, gt_iadd, gt_iconst, gt_isub, gt_v0, gt_v1, gt_v2, gt_v3, gt_v4, gt_v5, gt_goto, Option.toList, List.cons_append, List.nil_append, Nat.add_zero, ka0_0]
  refine ⟨fun c_5 => ?_, fun c_5 => ?_⟩
  · replace h := gw_ifp h c_5
    refine hK _ _ _ _ _ _ _ ?_
    rw [fdX11_waits_20]
    simp only [gt_nil, true_and, eq_self, gt_iconst, bkX11_waits_20, ka0_0]
    refine hK _ _ _ _ _ _ _ ?_
    rw [fdX11_waits_21]
    simp only [gt_nil, true_and, eq_self, gt_iret, gt_retz, bkX11_waits_21, ka0_0]
    obtain ⟨rfl, rfl⟩ := gw_inj2 h
    exact ⟨hcc, hss, hq⟩
  · replace h := gw_ifn h c_5
    obtain ⟨r_6, μ_7, e_8, h⟩ := gw_bnd2 h
    refine ⟨rfl, 0, 0, hcc, hss, ok_X11_tillMore hS0 e_8 ?_⟩
    simp only [gt_nil, true_and, eq_self, gt_goto, Option.toList, List.cons_append, List.nil_append, Nat.add_zero, ka0_0]
    refine hK _ _ _ _ _ _ _ ?_
    rw [fdX11_waits_21]
    simp only [gt_nil, true_and, eq_self, gt_iret, gt_retz, bkX11_waits_21, ka0_0]
    obtain ⟨rfl, rfl⟩ := gw_inj2 h
    exact ⟨hcc, hss, hq⟩
def F_X11_seenBy_23 (n0 : Nat) (a0 : Nat) : Nat → Int32 → Int32 → Int32 → gw_M → Option (Int32 × gw_M)
  | 0, _, _, _, _ => none
  | n + 1, v2, v3, v4, μ => (if v2 ≤ v4 then gw_let (((μ (a0 + 1) 5) - v3)) (fun (w_2 : Int32) => (F_X11_bringBack n0 a0 μ).bind (fun (μ_4 : gw_M) => some (w_2, μ_4))) else (F_X11_goNow n0 a0 μ).bind (fun (μ_8 : gw_M) => gw_let (v4 + 1) (fun (w_11 : Int32) => F_X11_seenBy_23 n0 a0 n v2 v3 w_11 μ_8)))
def F_X11_seenBy (n0 : Nat) (a0 : Nat) (v1 : Int32) (v2 : Int32) (μ : gw_M) : Option (Int32 × gw_M) := (F_X11_putAside n0 a0 μ).bind (fun (μ_2 : gw_M) => (F_X11_unfoldAll n0 a0 μ_2).bind (fun (μ_6 : gw_M) => (F_X11_roomNow n0 a0 v1 μ_6).bind (fun (μ_10 : gw_M) => gw_let ((μ_10 (a0 + 1) 5)) (fun (w_13 : Int32) => F_X11_seenBy_23 n0 a0 n0 v2 w_13 0 μ_10))))
theorem B_X11_seenBy_23 {l : Launch} {x : gw_C} {d : Nat} {S : gw_S} {Q : Option Value → gw_S → gw_M → Prop} {K : Nat → gw_Kt} {mc ms cc ss : Nat} (hcc : cc ≤ mc) (hss : ss ≤ ms) (hK : gw_cl l x (d + 13) mc ms bsX11_seenBy Q K) {a0 : Nat} (hS0 : gw_sh S 11 a0) {n0 : Nat} : ∀ {n : Nat} {v2 v3 v4} {u1 : Value} {μ : gw_M} {r μ'}, F_X11_seenBy_23 n0 a0 n v2 v3 v4 μ = some (r, μ') → Q (some (.int r)) S μ' → K 23 [.ref a0, u1, .int v2, .int v3, .int v4] [] S μ cc ss := by
  have ka0_0 : gw_kd S a0 = 11 := (hS0 0 _ rfl).1
  have ra0_0_0 : gw_rf S a0 0 = a0 + 1 := (hS0 0 _ rfl).2.2 (0, 1) (by decide)
  have ka0_1 : gw_kd S (a0 + 1) = 12 := (hS0 1 _ rfl).1
  have la0_1 : gw_ln S (a0 + 1) = 20813 := (hS0 1 _ rfl).2.1
  intro n
  induction n with
  | zero => intro v2 v3 v4 u1 μ r μ' h hq; simp [F_X11_seenBy_23] at h
  | succ n ih =>
    intro v2 v3 v4 u1 μ r μ' h hq
    simp only [F_X11_seenBy_23] at h
    refine hK _ _ _ _ _ _ _ ?_
    rw [fdX11_seenBy_23]
    simp only [gt_nil, true_and, eq_self, gt_iload, gt_ink, gw_nth, gt_iload_n, gt_icmp, gt_aload_n, gt_rfk, gt_v0, gt_v1, gt_v2, gt_v3, gt_v4, gt_v5, gt_iinc, gw_set, gt_goto, bkX11_seenBy_23, ka0_0, ra0_0_0, ka0_1, la0_1, (show Int32.toNatClampNeg 5 = 5 from rfl)]
    refine ⟨fun c_1 => ?_, fun c_1 => ?_⟩
    · replace h := gw_ifp2 (gw_c2_ge _ _) h c_1
      refine hK _ _ _ _ _ _ _ ?_
      rw [fdX11_seenBy_39]
      simp only [gt_nil, true_and, eq_self, gt_aload_n, gt_rfk, gw_nth, gt_get_r, gt_get_i, gt_get_z, gt_iconst, gt_iaload, gt_iload_n, gt_ink, gt_isub, gt_istore, gw_set, gt_v0, gt_v1, gt_v2, gt_v3, gt_v4, gt_v5, gt_iload, gt_iret, gt_retz, bkX11_seenBy_39, ka0_0, ra0_0_0, ka0_1, la0_1, (show Int32.toNatClampNeg 5 = 5 from rfl)]
      refine ⟨(⟨by decide, by decide⟩ : gw_in 5 20813), ?_⟩
      obtain ⟨w_2, hw_2, h⟩ := gw_lt h
      try rw [← hw_2]
      obtain ⟨μ_4, e_5, h⟩ := gw_bnd h
      refine ⟨rfl, 0, 0, hcc, hss, ok_X11_bringBack hS0 e_5 ?_⟩
      simp only [gt_nil, true_and, eq_self, gt_iload, gt_ink, gw_nth, gt_iret, gt_retz, Option.toList, List.cons_append, List.nil_append, Nat.add_zero, ka0_0, ra0_0_0, ka0_1, la0_1, (show Int32.toNatClampNeg 5 = 5 from rfl)]
      obtain ⟨rfl, rfl⟩ := gw_inj2 h
      exact ⟨hcc, hss, hq⟩
    · replace h := gw_ifn2 (gw_c2_ge _ _) h c_1
      obtain ⟨μ_8, e_9, h⟩ := gw_bnd h
      refine ⟨rfl, 0, 0, hcc, hss, ok_X11_goNow hS0 e_9 ?_⟩
      simp only [gt_nil, true_and, eq_self, gt_iinc, gt_ink, gw_nth, gw_set, gt_goto, Option.toList, List.cons_append, List.nil_append, Nat.add_zero, ka0_0, ra0_0_0, ka0_1, la0_1, (show Int32.toNatClampNeg 5 = 5 from rfl)]
      obtain ⟨w_11, hw_11, h⟩ := gw_lt h
      try rw [← hw_11]
      exact ih h hq
theorem ok_X11_seenBy {l : Launch} {x : gw_C} {d : Nat} {S : gw_S} {Q : Option Value → gw_S → gw_M → Prop} {v1 v2 : Int32} {a0 : Nat} {n0 : Nat} {μ : gw_M} {r μ'} (hS0 : gw_sh S 11 a0) (h : F_X11_seenBy n0 a0 v1 v2 μ = some (r, μ')) (hq : Q (some (.int r)) S μ') : gw_ok l x (d + 14) sgX11_seenBy 0 0 [.ref a0, .int v1, .int v2] S μ Q := by
  refine gw_ok_of stX11_seenBy (lv0 := [.ref a0, .int v1, .int v2, .retAddr 0, .retAddr 0]) (Nat.le_of_ble_eq_true rfl) rfl rfl ?_
  intro K hK
  have hcc : 0 ≤ 0 := Nat.zero_le _
  have hss : 0 ≤ 0 := Nat.zero_le _
  have ka0_0 : gw_kd S a0 = 11 := (hS0 0 _ rfl).1
  have ra0_0_0 : gw_rf S a0 0 = a0 + 1 := (hS0 0 _ rfl).2.2 (0, 1) (by decide)
  have ka0_1 : gw_kd S (a0 + 1) = 12 := (hS0 1 _ rfl).1
  have la0_1 : gw_ln S (a0 + 1) = 20813 := (hS0 1 _ rfl).2.1
  unfold F_X11_seenBy at h
  refine hK _ _ _ _ _ _ _ ?_
  rw [fdX11_seenBy_0]
  simp only [gt_nil, true_and, eq_self, gt_aload_n, gt_rfk, gw_nth, gt_v0, gt_v1, gt_v2, gt_v3, gt_v4, gt_v5, gt_iload_n, gt_ink, gt_get_r, gt_get_i, gt_get_z, gt_iconst, gt_iaload, gt_istore_n, gw_set, gt_istore, bkX11_seenBy_0, ka0_0, ra0_0_0, ka0_1, la0_1, (show Int32.toNatClampNeg 5 = 5 from rfl)]
  obtain ⟨μ_2, e_3, h⟩ := gw_bnd h
  refine ⟨rfl, 0, 0, hcc, hss, ok_X11_putAside hS0 e_3 ?_⟩
  simp only [gt_nil, true_and, eq_self, gt_aload_n, gt_rfk, gw_nth, gt_v0, gt_v1, gt_v2, gt_v3, gt_v4, gt_v5, gt_iload_n, gt_ink, gt_get_r, gt_get_i, gt_get_z, gt_iconst, gt_iaload, gt_istore_n, gw_set, gt_istore, Option.toList, List.cons_append, List.nil_append, Nat.add_zero, ka0_0, ra0_0_0, ka0_1, la0_1, (show Int32.toNatClampNeg 5 = 5 from rfl)]
  obtain ⟨μ_6, e_7, h⟩ := gw_bnd h
  refine ⟨rfl, 0, 0, hcc, hss, ok_X11_unfoldAll hS0 e_7 ?_⟩
  simp only [gt_nil, true_and, eq_self, gt_aload_n, gt_rfk, gw_nth, gt_iload_n, gt_ink, gt_v0, gt_v1, gt_v2, gt_v3, gt_v4, gt_v5, gt_get_r, gt_get_i, gt_get_z, gt_iconst, gt_iaload, gt_istore_n, gw_set, gt_istore, Option.toList, List.cons_append, List.nil_append, Nat.add_zero, ka0_0, ra0_0_0, ka0_1, la0_1, (show Int32.toNatClampNeg 5 = 5 from rfl)]
  obtain ⟨μ_10, e_11, h⟩ := gw_bnd h
  refine ⟨rfl, 0, 0, hcc, hss, ok_X11_roomNow hS0 e_11 ?_⟩
  simp only [gt_nil, true_and, eq_self, gt_aload_n, gt_rfk, gw_nth, gt_get_r, gt_get_i, gt_get_z, gt_iconst, gt_iaload, gt_istore_n, gw_set, gt_istore, Option.toList, List.cons_append, List.nil_append, Nat.add_zero, ka0_0, ra0_0_0, ka0_1, la0_1, (show Int32.toNatClampNeg 5 = 5 from rfl)]
  refine ⟨(⟨by decide, by decide⟩ : gw_in 5 20813), ?_⟩
  obtain ⟨w_13, hw_13, h⟩ := gw_lt h
  try rw [← hw_13]
  exact B_X11_seenBy_23 hcc hss hK hS0 h hq
def F_X11_roomiest_55 (rec24 : Int32 → Int32 → Int32 → Int32 → gw_M → Option (Int32 × gw_M)) (n0 : Nat) (a0 : Nat) (v1 : Int32) (v2 : Int32) (v3 : Int32) (v4 : Int32) (μ : gw_M) : Option (Int32 × gw_M) := gw_let (v4 + 1) (fun (w_1 : Int32) => rec24 v1 v2 v3 w_1 μ)
def F_X11_roomiest_24 (n0 : Nat) (a0 : Nat) : Nat → Int32 → Int32 → Int32 → Int32 → gw_M → Option (Int32 × gw_M)
  | 0, _, _, _, _, _ => none
  | n + 1, v1, v2, v3, v4, μ => (if 16 < v4 then some (v2, μ) else (gw_bi (F_X11_seenBy n0 a0 v4 v1 μ) (fun (r_2 : Int32) (μ_3 : gw_M) => (if r_2 < v3 then F_X11_roomiest_55 (F_X11_roomiest_24 n0 a0 n) n0 a0 v1 v4 r_2 v4 μ_3 else F_X11_roomiest_55 (F_X11_roomiest_24 n0 a0 n) n0 a0 v1 v2 v3 v4 μ_3))))
def F_X11_roomiest (n0 : Nat) (a0 : Nat) (v1 : Int32) (μ : gw_M) : Option (Int32 × gw_M) := (F_X11_canGo n0 a0 v1 100 μ).bind (fun (r_1 : Int32) => (if ¬ r_1 = 0 then (gw_bi (F_X11_seenBy n0 a0 1 v1 μ) (fun (r_6 : Int32) (μ_7 : gw_M) => F_X11_roomiest_24 n0 a0 n0 v1 1 r_6 2 μ_7)) else some ((-1), μ)))
theorem B_X11_roomiest_55 {l : Launch} {x : gw_C} {d : Nat} {S : gw_S} {Q : Option Value → gw_S → gw_M → Prop} {K : Nat → gw_Kt} {mc ms cc ss : Nat} (hcc : cc ≤ mc) (hss : ss ≤ ms) (hK : gw_cl l x (d + 14) mc ms bsX11_roomiest Q K) {a0 : Nat} (hS0 : gw_sh S 11 a0) {rec24 : Int32 → Int32 → Int32 → Int32 → gw_M → Option (Int32 × gw_M)} (hrec24 : ∀ {v1 v2 v3 v4} {u5 : Value} {μ : gw_M} {r μ'}, rec24 v1 v2 v3 v4 μ = some (r, μ') → Q (some (.int r)) S μ' → K 24 [.ref a0, .int v1, .int v2, .int v3, .int v4, u5] [] S μ cc ss) {n0 : Nat} {v1 v2 v3 v4} {u5 : Value} {μ : gw_M} {r μ'} (h : F_X11_roomiest_55 rec24 n0 a0 v1 v2 v3 v4 μ = some (r, μ')) (hq : Q (some (.int r)) S μ') : K 55 [.ref a0, .int v1, .int v2, .int v3, .int v4, u5] [] S μ cc ss := by
  unfold F_X11_roomiest_55 at h
  refine hK _ _ _ _ _ _ _ ?_
  rw [fdX11_roomiest_55]
  simp only [gt_nil, true_and, eq_self, gt_iinc, gt_ink, gw_nth, gw_set, gt_goto, bkX11_roomiest_55]
  obtain ⟨w_1, hw_1, h⟩ := gw_lt h
  try rw [← hw_1]
  exact hrec24 h hq
theorem B_X11_roomiest_24 {l : Launch} {x : gw_C} {d : Nat} {S : gw_S} {Q : Option Value → gw_S → gw_M → Prop} {K : Nat → gw_Kt} {mc ms cc ss : Nat} (hcc : cc ≤ mc) (hss : ss ≤ ms) (hK : gw_cl l x (d + 14) mc ms bsX11_roomiest Q K) {a0 : Nat} (hS0 : gw_sh S 11 a0) {n0 : Nat} : ∀ {n : Nat} {v1 v2 v3 v4} {u5 : Value} {μ : gw_M} {r μ'}, F_X11_roomiest_24 n0 a0 n v1 v2 v3 v4 μ = some (r, μ') → Q (some (.int r)) S μ' → K 24 [.ref a0, .int v1, .int v2, .int v3, .int v4, u5] [] S μ cc ss := by
  have ka0_0 : gw_kd S a0 = 11 := (hS0 0 _ rfl).1
  intro n
  induction n with
  | zero => intro v1 v2 v3 v4 u5 μ r μ' h hq; simp [F_X11_roomiest_24] at h
  | succ n ih =>
    intro v1 v2 v3 v4 u5 μ r μ' h hq
    simp only [F_X11_roomiest_24] at h
    refine hK _ _ _ _ _ _ _ ?_
    rw [fdX11_roomiest_24]
    simp only [gt_nil, true_and, eq_self, gt_iload, gt_ink, gw_nth, gt_bipush, gt_icmp, gt_aload_n, gt_rfk, gt_iload_n, gt_v0, gt_v1, gt_v2, gt_v3, gt_v4, gt_v5, gt_istore, gw_set, gt_goto, bkX11_roomiest_24, ka0_0]
    refine ⟨fun c_1 => ?_, fun c_1 => ?_⟩
    · replace h := gw_ifp2 (gw_c2_gt _ _) h c_1
      refine hK _ _ _ _ _ _ _ ?_
      rw [fdX11_roomiest_61]
      simp only [gt_nil, true_and, eq_self, gt_iload_n, gt_ink, gw_nth, gt_iret, gt_retz, bkX11_roomiest_61, ka0_0]
      obtain ⟨rfl, rfl⟩ := gw_inj2 h
      exact ⟨hcc, hss, hq⟩
    · replace h := gw_ifn2 (gw_c2_gt _ _) h c_1
      obtain ⟨r_2, μ_3, e_4, h⟩ := gw_bnd2 h
      refine ⟨rfl, 0, 0, hcc, hss, ok_X11_seenBy hS0 e_4 ?_⟩
      simp only [gt_nil, true_and, eq_self, gt_istore, gw_set, gt_iload, gt_ink, gw_nth, gt_iload_n, gt_icmp, gt_goto, Option.toList, List.cons_append, List.nil_append, Nat.add_zero, ka0_0]
      refine ⟨fun c_6 => ?_, fun c_6 => ?_⟩
      · replace h := gw_ifp2 (gw_c2_lt _ _) h c_6
        refine hK _ _ _ _ _ _ _ ?_
        rw [fdX11_roomiest_49]
        simp only [gt_nil, true_and, eq_self, gt_iload, gt_ink, gw_nth, gt_istore_n, gw_set, bkX11_roomiest_49, ka0_0]
        exact B_X11_roomiest_55 hcc hss hK hS0 ih h hq
      · replace h := gw_ifn2 (gw_c2_lt _ _) h c_6
        exact B_X11_roomiest_55 hcc hss hK hS0 ih h hq
theorem ok_X11_roomiest {l : Launch} {x : gw_C} {d : Nat} {S : gw_S} {Q : Option Value → gw_S → gw_M → Prop} {v1 : Int32} {a0 : Nat} {n0 : Nat} {μ : gw_M} {r μ'} (hS0 : gw_sh S 11 a0) (h : F_X11_roomiest n0 a0 v1 μ = some (r, μ')) (hq : Q (some (.int r)) S μ') : gw_ok l x (d + 15) sgX11_roomiest 0 0 [.ref a0, .int v1] S μ Q := by
  refine gw_ok_of stX11_roomiest (lv0 := [.ref a0, .int v1, .retAddr 0, .retAddr 0, .retAddr 0, .retAddr 0]) (Nat.le_of_ble_eq_true rfl) rfl rfl ?_
  intro K hK
  have hcc : 0 ≤ 0 := Nat.zero_le _
  have hss : 0 ≤ 0 := Nat.zero_le _
  have ka0_0 : gw_kd S a0 = 11 := (hS0 0 _ rfl).1
  unfold F_X11_roomiest at h
  refine hK _ _ _ _ _ _ _ ?_
  rw [fdX11_roomiest_0]
  simp only [gt_nil, true_and, eq_self, gt_aload_n, gt_rfk, gw_nth, gt_iload_n, gt_ink, gt_bipush, gt_v0, gt_v1, gt_v2, gt_v3, gt_v4, gt_v5, gt_if, gt_iconst, gt_iret, gt_retz, bkX11_roomiest_0, ka0_0]
  obtain ⟨r_1, e_3, h⟩ := gw_bnd h
  refine ⟨rfl, 0, 0, hcc, hss, ok_X11_canGo hS0 e_3 ?_⟩
  intro hbr_1
  simp only [gt_nil, true_and, eq_self, gt_if, gt_iconst, gt_iret, gt_retz, Option.toList, List.cons_append, List.nil_append, Nat.add_zero, ka0_0]
  refine ⟨fun c_5 => ?_, fun c_5 => ?_⟩
  · replace h := gw_ifp h c_5
    refine hK _ _ _ _ _ _ _ ?_
    rw [fdX11_roomiest_12]
    simp only [gt_nil, true_and, eq_self, gt_iconst, gt_istore_n, gw_set, gt_aload_n, gt_rfk, gw_nth, gt_iload_n, gt_ink, gt_v0, gt_v1, gt_v2, gt_v3, gt_v4, gt_v5, gt_istore, bkX11_roomiest_12, ka0_0]
    obtain ⟨r_6, μ_7, e_8, h⟩ := gw_bnd2 h
    refine ⟨rfl, 0, 0, hcc, hss, ok_X11_seenBy hS0 e_8 ?_⟩
    simp only [gt_nil, true_and, eq_self, gt_istore_n, gw_set, gt_iconst, gt_istore, Option.toList, List.cons_append, List.nil_append, Nat.add_zero, ka0_0]
    exact B_X11_roomiest_24 hcc hss hK hS0 h hq
  · replace h := gw_ifn h c_5
    obtain ⟨rfl, rfl⟩ := gw_inj2 h
    exact ⟨hcc, hss, hq⟩
def F_X11_plainValue (n0 : Nat) (a0 : Nat) (v1 : Int32) (μ : gw_M) : Option (Int32) := (F_X11_toOf n0 a0 1 v1 μ).bind (fun (r_1 : Int32) => (if ¬ r_1 = (-1) then (F_X11_toOf n0 a0 2 r_1 μ).bind (fun (r_6 : Int32) => (if r_6 = (-1) then (if 0 ≤ ((812 : Int32) + r_1) ∧ ((812 : Int32) + r_1).toNatClampNeg < 20813 then (if ¬ (μ (a0 + 1) ((812 : Int32) + r_1).toNatClampNeg) = (-1) then (if 0 ≤ ((812 : Int32) + r_1) ∧ ((812 : Int32) + r_1).toNatClampNeg < 20813 then some (μ (a0 + 1) ((812 : Int32) + r_1).toNatClampNeg) else none) else some 0) else none) else (F_X11_toOf n0 a0 2 r_1 μ).bind (fun (r_14 : Int32) => (if 0 ≤ ((802 : Int32) + r_14) ∧ ((802 : Int32) + r_14).toNatClampNeg < 20813 then some (μ (a0 + 1) ((802 : Int32) + r_14).toNatClampNeg) else none)))) else some 0))
theorem ok_X11_plainValue {l : Launch} {x : gw_C} {d : Nat} {S : gw_S} {Q : Option Value → gw_S → gw_M → Prop} {v1 : Int32} {a0 : Nat} {n0 : Nat} {μ : gw_M} {r} (hS0 : gw_sh S 11 a0) (h : F_X11_plainValue n0 a0 v1 μ = some r) (hq : Q (some (.int r)) S μ) : gw_ok l x (d + 4) sgX11_plainValue 0 0 [.ref a0, .int v1] S μ Q := by
  refine gw_ok_of stX11_plainValue (lv0 := [.ref a0, .int v1, .retAddr 0]) (Nat.le_of_ble_eq_true rfl) rfl rfl ?_
  intro K hK
  have hcc : 0 ≤ 0 := Nat.zero_le _
  have hss : 0 ≤ 0 := Nat.zero_le _
  have ka0_0 : gw_kd S a0 = 11 := (hS0 0 _ rfl).1
  have ra0_0_0 : gw_rf S a0 0 = a0 + 1 := (hS0 0 _ rfl).2.2 (0, 1) (by decide)
  have ka0_1 : gw_kd S (a0 + 1) = 12 := (hS0 1 _ rfl).1
  have la0_1 : gw_ln S (a0 + 1) = 20813 := (hS0 1 _ rfl).2.1
  unfold F_X11_plainValue at h
  refine hK _ _ _ _ _ _ _ ?_
  rw [fdX11_plainValue_0]
  simp only [gt_nil, true_and, eq_self, gt_aload_n, gt_rfk, gw_nth, gt_iconst, gt_iload_n, gt_ink, gt_v0, gt_v1, gt_v2, gt_v3, gt_v4, gt_v5, gt_istore_n, gw_set, gt_icmp, gt_iret, gt_retz, bkX11_plainValue_0, ka0_0, ra0_0_0, ka0_1, la0_1]
  obtain ⟨r_1, e_3, h⟩ := gw_bnd h
  refine ⟨rfl, 0, 0, hcc, hss, ok_X11_toOf hS0 e_3 ?_⟩
  simp only [gt_nil, true_and, eq_self, gt_istore_n, gw_set, gt_iload_n, gt_ink, gw_nth, gt_iconst, gt_icmp, gt_iret, gt_retz, Option.toList, List.cons_append, List.nil_append, Nat.add_zero, ka0_0, ra0_0_0, ka0_1, la0_1]
  refine ⟨fun c_5 => ?_, fun c_5 => ?_⟩
  · replace h := gw_ifp2 (gw_c2_ne _ _) h c_5
    refine hK _ _ _ _ _ _ _ ?_
    rw [fdX11_plainValue_14]
    simp only [gt_nil, true_and, eq_self, gt_aload_n, gt_rfk, gw_nth, gt_iconst, gt_iload_n, gt_ink, gt_v0, gt_v1, gt_v2, gt_v3, gt_v4, gt_v5, gt_icmp, gt_get_r, gt_get_i, gt_get_z, gt_sipush, gt_iadd, gt_iaload, gt_iret, gt_retz, bkX11_plainValue_14, ka0_0, ra0_0_0, ka0_1, la0_1]
    obtain ⟨r_6, e_8, h⟩ := gw_bnd h
    refine ⟨rfl, 0, 0, hcc, hss, ok_X11_toOf hS0 e_8 ?_⟩
    simp only [gt_nil, true_and, eq_self, gt_iconst, gt_icmp, gt_aload_n, gt_rfk, gw_nth, gt_get_r, gt_get_i, gt_get_z, gt_sipush, gt_iload_n, gt_ink, gt_v0, gt_v1, gt_v2, gt_v3, gt_v4, gt_v5, gt_iadd, gt_iaload, gt_iret, gt_retz, Option.toList, List.cons_append, List.nil_append, Nat.add_zero, ka0_0, ra0_0_0, ka0_1, la0_1]
    refine ⟨fun c_10 => ?_, fun c_10 => ?_⟩
    · replace h := gw_ifp2 (gw_c2_eq _ _) h c_10
      refine hK _ _ _ _ _ _ _ ?_
      rw [fdX11_plainValue_40]
      simp only [gt_nil, true_and, eq_self, gt_aload_n, gt_rfk, gw_nth, gt_get_r, gt_get_i, gt_get_z, gt_sipush, gt_iload_n, gt_ink, gt_iadd, gt_iaload, gt_iconst, gt_icmp, gt_goto, bkX11_plainValue_40, ka0_0, ra0_0_0, ka0_1, la0_1]
      obtain ⟨c_11, h⟩ := gw_ife h
      refine ⟨c_11, ?_⟩
      refine ⟨fun c_12 => ?_, fun c_12 => ?_⟩
      · replace h := gw_ifp2 (gw_c2_ne _ _) h c_12
        refine hK _ _ _ _ _ _ _ ?_
        rw [fdX11_plainValue_58]
        simp only [gt_nil, true_and, eq_self, gt_aload_n, gt_rfk, gw_nth, gt_get_r, gt_get_i, gt_get_z, gt_sipush, gt_iload_n, gt_ink, gt_iadd, gt_iaload, bkX11_plainValue_58, ka0_0, ra0_0_0, ka0_1, la0_1]
        obtain ⟨c_13, h⟩ := gw_ife h
        refine ⟨c_13, ?_⟩
        refine hK _ _ _ _ _ _ _ ?_
        rw [fdX11_plainValue_68]
        simp only [gt_nil, true_and, eq_self, gt_iret, gt_retz, bkX11_plainValue_68, ka0_0, ra0_0_0, ka0_1, la0_1]
        obtain rfl := gw_inj1 h
        exact ⟨hcc, hss, hq⟩
      · replace h := gw_ifn2 (gw_c2_ne _ _) h c_12
        refine hK _ _ _ _ _ _ _ ?_
        rw [fdX11_plainValue_68]
        simp only [gt_nil, true_and, eq_self, gt_iret, gt_retz, bkX11_plainValue_68, ka0_0, ra0_0_0, ka0_1, la0_1]
        obtain rfl := gw_inj1 h
        exact ⟨hcc, hss, hq⟩
    · replace h := gw_ifn2 (gw_c2_eq _ _) h c_10
      obtain ⟨r_14, e_16, h⟩ := gw_bnd h
      refine ⟨rfl, 0, 0, hcc, hss, ok_X11_toOf hS0 e_16 ?_⟩
      simp only [gt_nil, true_and, eq_self, gt_iadd, gt_iaload, gt_iret, gt_retz, Option.toList, List.cons_append, List.nil_append, Nat.add_zero, ka0_0, ra0_0_0, ka0_1, la0_1]
      obtain ⟨c_18, h⟩ := gw_ife h
      refine ⟨c_18, ?_⟩
      obtain rfl := gw_inj1 h
      exact ⟨hcc, hss, hq⟩
  · replace h := gw_ifn2 (gw_c2_ne _ _) h c_5
    obtain rfl := gw_inj1 h
    exact ⟨hcc, hss, hq⟩
def F_X11_plainTrap (n0 : Nat) (a0 : Nat) (v1 : Int32) (v2 : Int32) (v3 : Int32) (μ : gw_M) : Option (gw_M) := gw_let (gw_up μ a0 5 ((μ a0 5) + (1 : Int32))) (fun (μ_1 : gw_M) => gw_let (gw_up μ_1 a0 8 v2) (fun (μ_2 : gw_M) => gw_let (gw_up μ_2 a0 9 v3) (fun (μ_3 : gw_M) => (if 0 ≤ (v1 + (143 : Int32)) ∧ (v1 + (143 : Int32)).toNatClampNeg < 20813 then (F_X11_hasPlace n0 a0 v1 (μ_3 (a0 + 1) (v1 + (143 : Int32)).toNatClampNeg) μ_3).bind (fun (r_5 : Int32) => (if r_5 = 0 then some μ_3 else (if 0 ≤ (v1 + (143 : Int32)) ∧ (v1 + (143 : Int32)).toNatClampNeg < 20813 then gw_let (gw_up μ_3 a0 7 (μ_3 (a0 + 1) (v1 + (143 : Int32)).toNatClampNeg)) (fun (μ_11 : gw_M) => some μ_11) else none))) else none))))
theorem ok_X11_plainTrap {l : Launch} {x : gw_C} {d : Nat} {S : gw_S} {Q : Option Value → gw_S → gw_M → Prop} {v1 v2 v3 : Int32} {a0 : Nat} {n0 : Nat} {μ : gw_M} {μ'} (hS0 : gw_sh S 11 a0) (h : F_X11_plainTrap n0 a0 v1 v2 v3 μ = some μ') (hq : Q none S μ') : gw_ok l x (d + 3) sgX11_plainTrap 0 0 [.ref a0, .int v1, .int v2, .int v3] S μ Q := by
  refine gw_ok_of stX11_plainTrap (lv0 := [.ref a0, .int v1, .int v2, .int v3]) (Nat.le_of_ble_eq_true rfl) rfl rfl ?_
  intro K hK
  have hcc : 0 ≤ 0 := Nat.zero_le _
  have hss : 0 ≤ 0 := Nat.zero_le _
  have ka0_0 : gw_kd S a0 = 11 := (hS0 0 _ rfl).1
  have ra0_0_0 : gw_rf S a0 0 = a0 + 1 := (hS0 0 _ rfl).2.2 (0, 1) (by decide)
  have ka0_1 : gw_kd S (a0 + 1) = 12 := (hS0 1 _ rfl).1
  have la0_1 : gw_ln S (a0 + 1) = 20813 := (hS0 1 _ rfl).2.1
  unfold F_X11_plainTrap at h
  refine hK _ _ _ _ _ _ _ ?_
  rw [fdX11_plainTrap_0]
  simp only [gt_nil, true_and, eq_self, gt_aload_n, gt_rfk, gw_nth, gt_dup_i, gt_dup_r, gt_get_r, gt_get_i, gt_get_z, gt_iconst, gt_iadd, gt_put_i, gt_putz, gt_iload_n, gt_ink, gt_sipush, gt_iaload, gt_v0, gt_v1, gt_v2, gt_v3, gt_v4, gt_v5, gt_if, bkX11_plainTrap_0, ka0_0, ra0_0_0, ka0_1, la0_1]
  obtain ⟨μ_1, hμ_1, h⟩ := gw_lt h
  try rw [← hμ_1]
  obtain ⟨μ_2, hμ_2, h⟩ := gw_lt h
  try rw [← hμ_2]
  obtain ⟨μ_3, hμ_3, h⟩ := gw_lt h
  try rw [← hμ_3]
  obtain ⟨c_4, h⟩ := gw_ife h
  refine ⟨c_4, ?_⟩
  obtain ⟨r_5, e_7, h⟩ := gw_bnd h
  refine ⟨rfl, 0, 0, hcc, hss, ok_X11_hasPlace hS0 e_7 ?_⟩
  intro hbr_5
  simp only [gt_nil, true_and, eq_self, gt_if, gt_aload_n, gt_rfk, gw_nth, gt_get_r, gt_get_i, gt_get_z, gt_iload_n, gt_ink, gt_sipush, gt_iadd, gt_iaload, gt_put_i, gt_putz, Option.toList, List.cons_append, List.nil_append, Nat.add_zero, ka0_0, ra0_0_0, ka0_1, la0_1]
  refine ⟨fun c_9 => ?_, fun c_9 => ?_⟩
  · replace h := gw_ifp h c_9
    refine hK _ _ _ _ _ _ _ ?_
    rw [fdX11_plainTrap_52]
    simp only [gt_nil, true_and, eq_self, gt_vret, bkX11_plainTrap_52, ka0_0, ra0_0_0, ka0_1, la0_1]
    obtain rfl := gw_inj1 h
    exact ⟨hcc, hss, hq⟩
  · replace h := gw_ifn h c_9
    obtain ⟨c_10, h⟩ := gw_ife h
    refine ⟨c_10, ?_⟩
    obtain ⟨μ_11, hμ_11, h⟩ := gw_lt h
    try rw [← hμ_11]
    refine hK _ _ _ _ _ _ _ ?_
    rw [fdX11_plainTrap_52]
    simp only [gt_nil, true_and, eq_self, gt_vret, bkX11_plainTrap_52, ka0_0, ra0_0_0, ka0_1, la0_1]
    obtain rfl := gw_inj1 h
    exact ⟨hcc, hss, hq⟩
def F_X11_plainTell (n0 : Nat) (a0 : Nat) (v1 : Int32) (v2 : Int32) (μ : gw_M) : Option (gw_M) := (if 0 ≤ ((2 : Int32) * v1) ∧ ((2 : Int32) * v1).toNatClampNeg < 32 then gw_let (gw_up μ (a0 + 5) ((2 : Int32) * v1).toNatClampNeg v2) (fun (μ_2 : gw_M) => (if 0 ≤ (((2 : Int32) * v1) + (1 : Int32)) ∧ (((2 : Int32) * v1) + (1 : Int32)).toNatClampNeg < 32 then gw_let (gw_up μ_2 (a0 + 5) (((2 : Int32) * v1) + (1 : Int32)).toNatClampNeg 7) (fun (μ_4 : gw_M) => some μ_4) else none)) else none)
theorem ok_X11_plainTell {l : Launch} {x : gw_C} {d : Nat} {S : gw_S} {Q : Option Value → gw_S → gw_M → Prop} {v1 v2 : Int32} {a0 : Nat} {n0 : Nat} {μ : gw_M} {μ'} (hS0 : gw_sh S 11 a0) (h : F_X11_plainTell n0 a0 v1 v2 μ = some μ') (hq : Q none S μ') : gw_ok l x (d + 1) sgX11_plainTell 0 0 [.ref a0, .int v1, .int v2] S μ Q := by
  refine gw_ok_of stX11_plainTell (lv0 := [.ref a0, .int v1, .int v2]) (Nat.le_of_ble_eq_true rfl) rfl rfl ?_
  intro K hK
  have hcc : 0 ≤ 0 := Nat.zero_le _
  have hss : 0 ≤ 0 := Nat.zero_le _
  have ka0_0 : gw_kd S a0 = 11 := (hS0 0 _ rfl).1
  have ra0_0_4 : gw_rf S a0 4 = a0 + 5 := (hS0 0 _ rfl).2.2 (4, 5) (by decide)
  have ka0_5 : gw_kd S (a0 + 5) = 12 := (hS0 5 _ rfl).1
  have la0_5 : gw_ln S (a0 + 5) = 32 := (hS0 5 _ rfl).2.1
  unfold F_X11_plainTell at h
  refine hK _ _ _ _ _ _ _ ?_
  rw [fdX11_plainTell_0]
  simp only [gt_nil, true_and, eq_self, gt_aload_n, gt_rfk, gw_nth, gt_get_r, gt_get_i, gt_get_z, gt_iconst, gt_iload_n, gt_ink, gt_imul, gt_iastore, gt_iadd, gt_bipush, gt_vret, bkX11_plainTell_0, ka0_0, ra0_0_4, ka0_5, la0_5]
  obtain ⟨c_1, h⟩ := gw_ife h
  refine ⟨c_1, ?_⟩
  obtain ⟨μ_2, hμ_2, h⟩ := gw_lt h
  try rw [← hμ_2]
  obtain ⟨c_3, h⟩ := gw_ife h
  refine ⟨c_3, ?_⟩
  obtain ⟨μ_4, hμ_4, h⟩ := gw_lt h
  try rw [← hμ_4]
  obtain rfl := gw_inj1 h
  exact ⟨hcc, hss, hq⟩
def F_X11_plainTouch_30 (n0 : Nat) (a0 : Nat) (v1 : Int32) (v2 : Int32) (v3 : Int32) (μ : gw_M) : Option (gw_M) := (F_X11_plainTrap n0 a0 v1 v3 v2 μ).bind (fun (μ_2 : gw_M) => some μ_2)
def F_X11_plainTouch (n0 : Nat) (a0 : Nat) (v1 : Int32) (v2 : Int32) (v3 : Int32) (v4 : Int32) (v5 : Int32) (μ : gw_M) : Option (gw_M) := (if 0 ≤ ((2 : Int32) * v3) ∧ ((2 : Int32) * v3).toNatClampNeg < 32 then (if (μ (a0 + 5) ((2 : Int32) * v3).toNatClampNeg) = (-1) then F_X11_plainTouch_30 n0 a0 v1 v2 v3 μ else (if 0 ≤ (((2 : Int32) * v3) + (1 : Int32)) ∧ (((2 : Int32) * v3) + (1 : Int32)).toNatClampNeg < 32 then (F_X11_has n0 (μ (a0 + 5) (((2 : Int32) * v3) + (1 : Int32)).toNatClampNeg) v4 μ).bind (fun (r_4 : Int32) => (if ¬ r_4 = 0 then (if 0 ≤ ((2 : Int32) * v3) ∧ ((2 : Int32) * v3).toNatClampNeg < 32 then gw_let ((μ (a0 + 5) ((2 : Int32) * v3).toNatClampNeg)) (fun (w_10 : Int32) => (if ¬ v4 = 1 then (if 0 ≤ w_10 ∧ w_10.toNatClampNeg < 16 then gw_let (gw_up μ a0 6 (μ (a0 + 4) w_10.toNatClampNeg)) (fun (μ_13 : gw_M) => some μ_13) else none) else (if 0 ≤ w_10 ∧ w_10.toNatClampNeg < 16 then gw_let (gw_up μ (a0 + 4) w_10.toNatClampNeg v5) (fun (μ_15 : gw_M) => some μ_15) else none))) else none) else F_X11_plainTouch_30 n0 a0 v1 v2 v3 μ)) else none)) else none)
theorem B_X11_plainTouch_30 {l : Launch} {x : gw_C} {d : Nat} {S : gw_S} {Q : Option Value → gw_S → gw_M → Prop} {K : Nat → gw_Kt} {mc ms cc ss : Nat} (hcc : cc ≤ mc) (hss : ss ≤ ms) (hK : gw_cl l x (d + 3) mc ms bsX11_plainTouch Q K) {a0 : Nat} (hS0 : gw_sh S 11 a0) {n0 : Nat} {v1 v2 v3} {u4 u5 u6 : Value} {μ : gw_M} {μ'} (h : F_X11_plainTouch_30 n0 a0 v1 v2 v3 μ = some μ') (hq : Q none S μ') : K 30 [.ref a0, .int v1, .int v2, .int v3, u4, u5, u6] [] S μ cc ss := by
  have ka0_0 : gw_kd S a0 = 11 := (hS0 0 _ rfl).1
  unfold F_X11_plainTouch_30 at h
  refine hK _ _ _ _ _ _ _ ?_
  rw [fdX11_plainTouch_30]
  simp only [gt_nil, true_and, eq_self, gt_aload_n, gt_rfk, gw_nth, gt_iload_n, gt_ink, gt_v0, gt_v1, gt_v2, gt_v3, gt_v4, gt_v5, gt_vret, bkX11_plainTouch_30, ka0_0]
  obtain ⟨μ_2, e_3, h⟩ := gw_bnd h
  refine ⟨rfl, 0, 0, hcc, hss, ok_X11_plainTrap hS0 e_3 ?_⟩
  simp only [gt_nil, true_and, eq_self, gt_vret, Option.toList, List.cons_append, List.nil_append, Nat.add_zero, ka0_0]
  obtain rfl := gw_inj1 h
  exact ⟨hcc, hss, hq⟩
theorem ok_X11_plainTouch {l : Launch} {x : gw_C} {d : Nat} {S : gw_S} {Q : Option Value → gw_S → gw_M → Prop} {v1 v2 v3 v4 v5 : Int32} {a0 : Nat} {n0 : Nat} {μ : gw_M} {μ'} (hS0 : gw_sh S 11 a0) (h : F_X11_plainTouch n0 a0 v1 v2 v3 v4 v5 μ = some μ') (hq : Q none S μ') : gw_ok l x (d + 4) sgX11_plainTouch 0 0 [.ref a0, .int v1, .int v2, .int v3, .int v4, .int v5] S μ Q := by
  refine gw_ok_of stX11_plainTouch (lv0 := [.ref a0, .int v1, .int v2, .int v3, .int v4, .int v5, .retAddr 0]) (Nat.le_of_ble_eq_true rfl) rfl rfl ?_
  intro K hK
  have hcc : 0 ≤ 0 := Nat.zero_le _
  have hss : 0 ≤ 0 := Nat.zero_le _
  have ka0_0 : gw_kd S a0 = 11 := (hS0 0 _ rfl).1
  have ra0_0_3 : gw_rf S a0 3 = a0 + 4 := (hS0 0 _ rfl).2.2 (3, 4) (by decide)
  have ra0_0_4 : gw_rf S a0 4 = a0 + 5 := (hS0 0 _ rfl).2.2 (4, 5) (by decide)
  have ka0_4 : gw_kd S (a0 + 4) = 12 := (hS0 4 _ rfl).1
  have la0_4 : gw_ln S (a0 + 4) = 16 := (hS0 4 _ rfl).2.1
  have ka0_5 : gw_kd S (a0 + 5) = 12 := (hS0 5 _ rfl).1
  have la0_5 : gw_ln S (a0 + 5) = 32 := (hS0 5 _ rfl).2.1
  unfold F_X11_plainTouch at h
  refine hK _ _ _ _ _ _ _ ?_
  rw [fdX11_plainTouch_0]
  simp only [gt_nil, true_and, eq_self, gt_aload_n, gt_rfk, gw_nth, gt_get_r, gt_get_i, gt_get_z, gt_iconst, gt_iload_n, gt_ink, gt_imul, gt_iaload, gt_icmp, gt_iadd, gt_iload, gt_s1_0, gt_s2_0, gt_s3_0, gt_s4_0, gt_s1_1, gt_s2_1, gt_s3_1, gt_s4_1, gt_acpy, gt_if, bkX11_plainTouch_0, ka0_0, ra0_0_3, ra0_0_4, ka0_4, la0_4, ka0_5, la0_5]
  obtain ⟨c_1, h⟩ := gw_ife h
  refine ⟨c_1, ?_⟩
  refine ⟨fun c_2 => ?_, fun c_2 => ?_⟩
  · replace h := gw_ifp2 (gw_c2_eq _ _) h c_2
    exact B_X11_plainTouch_30 hcc hss hK hS0 h hq
  · replace h := gw_ifn2 (gw_c2_eq _ _) h c_2
    obtain ⟨c_3, h⟩ := gw_ife h
    refine ⟨c_3, ?_⟩
    obtain ⟨r_4, e_6, h⟩ := gw_bnd h
    refine ⟨rfl, 0, 0, hcc, hss, ok_X11_has e_6 ?_⟩
    intro hbr_4
    simp only [gt_nil, true_and, eq_self, gt_if, Option.toList, List.cons_append, List.nil_append, Nat.add_zero, ka0_0, ra0_0_3, ra0_0_4, ka0_4, la0_4, ka0_5, la0_5]
    refine ⟨fun c_8 => ?_, fun c_8 => ?_⟩
    · replace h := gw_ifp h c_8
      refine hK _ _ _ _ _ _ _ ?_
      rw [fdX11_plainTouch_38]
      simp only [gt_nil, true_and, eq_self, gt_aload_n, gt_rfk, gw_nth, gt_get_r, gt_get_i, gt_get_z, gt_iconst, gt_iload_n, gt_ink, gt_imul, gt_iaload, gt_istore, gw_set, gt_iload, gt_icmp, gt_iastore, gt_goto, bkX11_plainTouch_38, ka0_0, ra0_0_3, ra0_0_4, ka0_4, la0_4, ka0_5, la0_5]
      obtain ⟨c_9, h⟩ := gw_ife h
      refine ⟨c_9, ?_⟩
      obtain ⟨w_10, hw_10, h⟩ := gw_lt h
      try rw [← hw_10]
      refine ⟨fun c_11 => ?_, fun c_11 => ?_⟩
      · replace h := gw_ifp2 (gw_c2_ne _ _) h c_11
        refine hK _ _ _ _ _ _ _ ?_
        rw [fdX11_plainTouch_66]
        simp only [gt_nil, true_and, eq_self, gt_aload_n, gt_rfk, gw_nth, gt_get_r, gt_get_i, gt_get_z, gt_iload, gt_ink, gt_iaload, gt_put_i, gt_putz, bkX11_plainTouch_66, ka0_0, ra0_0_3, ra0_0_4, ka0_4, la0_4, ka0_5, la0_5]
        obtain ⟨c_12, h⟩ := gw_ife h
        refine ⟨c_12, ?_⟩
        obtain ⟨μ_13, hμ_13, h⟩ := gw_lt h
        try rw [← hμ_13]
        refine hK _ _ _ _ _ _ _ ?_
        rw [fdX11_plainTouch_77]
        simp only [gt_nil, true_and, eq_self, gt_vret, bkX11_plainTouch_77, ka0_0, ra0_0_3, ra0_0_4, ka0_4, la0_4, ka0_5, la0_5]
        obtain rfl := gw_inj1 h
        exact ⟨hcc, hss, hq⟩
      · replace h := gw_ifn2 (gw_c2_ne _ _) h c_11
        obtain ⟨c_14, h⟩ := gw_ife h
        refine ⟨c_14, ?_⟩
        obtain ⟨μ_15, hμ_15, h⟩ := gw_lt h
        try rw [← hμ_15]
        refine hK _ _ _ _ _ _ _ ?_
        rw [fdX11_plainTouch_77]
        simp only [gt_nil, true_and, eq_self, gt_vret, bkX11_plainTouch_77, ka0_0, ra0_0_3, ra0_0_4, ka0_4, la0_4, ka0_5, la0_5]
        obtain rfl := gw_inj1 h
        exact ⟨hcc, hss, hq⟩
    · replace h := gw_ifn h c_8
      exact B_X11_plainTouch_30 hcc hss hK hS0 h hq
def F_X11_plainAct_139 (n0 : Nat) (a0 : Nat) (v1 : Int32) (v3 : Int32) (μ : gw_M) : Option (gw_M) := (if 0 ≤ v3 ∧ v3.toNatClampNeg < 20813 then (if ¬ (μ (a0 + 1) v3.toNatClampNeg) = 9 then some μ else (F_X11_hasPlace n0 a0 v1 (μ a0 9) μ).bind (fun (r_3 : Int32) => (if r_3 = 0 then some μ else gw_let (gw_up μ a0 7 (μ a0 9)) (fun (μ_8 : gw_M) => some μ_8)))) else none)
def F_X11_plainAct (n0 : Nat) (a0 : Nat) (v1 : Int32) (v2 : Int32) (μ : gw_M) : Option (gw_M) := gw_let (((v1 + (7 : Int32)) + ((3 : Int32) * v2))) (fun (w_1 : Int32) => (if 0 ≤ (v1 + (6 : Int32)) ∧ (v1 + (6 : Int32)).toNatClampNeg < 20813 then (if ¬ (μ (a0 + 1) (v1 + (6 : Int32)).toNatClampNeg) = 0 then gw_let (gw_up μ a0 7 ((v2 + (1 : Int32)) - (v2 + (1 : Int32)) / (μ (a0 + 1) (v1 + (6 : Int32)).toNatClampNeg) * (μ (a0 + 1) (v1 + (6 : Int32)).toNatClampNeg))) (fun (μ_4 : gw_M) => (if 0 ≤ w_1 ∧ w_1.toNatClampNeg < 20813 then (if 3 ≤ (μ_4 (a0 + 1) w_1.toNatClampNeg) then (if 0 ≤ w_1 ∧ w_1.toNatClampNeg < 20813 then (if ¬ (μ_4 (a0 + 1) w_1.toNatClampNeg) = 6 then (if 0 ≤ w_1 ∧ w_1.toNatClampNeg < 20813 then (if ¬ (μ_4 (a0 + 1) w_1.toNatClampNeg) = 8 then F_X11_plainAct_139 n0 a0 v1 w_1 μ_4 else (if (μ_4 a0 8) = (-1) then F_X11_plainAct_139 n0 a0 v1 w_1 μ_4 else (if 0 ≤ (w_1 + (1 : Int32)) ∧ (w_1 + (1 : Int32)).toNatClampNeg < 20813 then (F_X11_plainTell n0 a0 (μ_4 a0 8) (μ_4 (a0 + 1) (w_1 + (1 : Int32)).toNatClampNeg) μ_4).bind (fun (μ_14 : gw_M) => some μ_14) else none))) else none) else (if 0 ≤ (w_1 + (1 : Int32)) ∧ (w_1 + (1 : Int32)).toNatClampNeg < 20813 then (if 0 ≤ (w_1 + (2 : Int32)) ∧ (w_1 + (2 : Int32)).toNatClampNeg < 20813 then (F_X11_plainTell n0 a0 (μ_4 (a0 + 1) (w_1 + (1 : Int32)).toNatClampNeg) (μ_4 (a0 + 1) (w_1 + (2 : Int32)).toNatClampNeg) μ_4).bind (fun (μ_20 : gw_M) => some μ_20) else none) else none)) else none) else (if 0 ≤ (w_1 + (1 : Int32)) ∧ (w_1 + (1 : Int32)).toNatClampNeg < 20813 then (if 0 ≤ w_1 ∧ w_1.toNatClampNeg < 20813 then (if 0 ≤ (w_1 + (2 : Int32)) ∧ (w_1 + (2 : Int32)).toNatClampNeg < 20813 then (F_X11_plainTouch n0 a0 v1 v2 (μ_4 (a0 + 1) (w_1 + (1 : Int32)).toNatClampNeg) (μ_4 (a0 + 1) w_1.toNatClampNeg) (μ_4 (a0 + 1) (w_1 + (2 : Int32)).toNatClampNeg) μ_4).bind (fun (μ_27 : gw_M) => some μ_27) else none) else none) else none)) else none)) else none) else none))
theorem B_X11_plainAct_139 {l : Launch} {x : gw_C} {d : Nat} {S : gw_S} {Q : Option Value → gw_S → gw_M → Prop} {K : Nat → gw_Kt} {mc ms cc ss : Nat} (hcc : cc ≤ mc) (hss : ss ≤ ms) (hK : gw_cl l x (d + 4) mc ms bsX11_plainAct Q K) {a0 : Nat} (hS0 : gw_sh S 11 a0) {n0 : Nat} {v1 v3} {u2 : Value} {μ : gw_M} {μ'} (h : F_X11_plainAct_139 n0 a0 v1 v3 μ = some μ') (hq : Q none S μ') : K 139 [.ref a0, .int v1, u2, .int v3] [] S μ cc ss := by
  have ka0_0 : gw_kd S a0 = 11 := (hS0 0 _ rfl).1
  have ra0_0_0 : gw_rf S a0 0 = a0 + 1 := (hS0 0 _ rfl).2.2 (0, 1) (by decide)
  have ka0_1 : gw_kd S (a0 + 1) = 12 := (hS0 1 _ rfl).1
  have la0_1 : gw_ln S (a0 + 1) = 20813 := (hS0 1 _ rfl).2.1
  unfold F_X11_plainAct_139 at h
  refine hK _ _ _ _ _ _ _ ?_
  rw [fdX11_plainAct_139]
  simp only [gt_nil, true_and, eq_self, gt_aload_n, gt_rfk, gw_nth, gt_get_r, gt_get_i, gt_get_z, gt_iload_n, gt_ink, gt_iaload, gt_bipush, gt_icmp, gt_v0, gt_v1, gt_v2, gt_v3, gt_v4, gt_v5, gt_if, gt_put_i, gt_putz, bkX11_plainAct_139, ka0_0, ra0_0_0, ka0_1, la0_1]
  obtain ⟨c_1, h⟩ := gw_ife h
  refine ⟨c_1, ?_⟩
  refine ⟨fun c_2 => ?_, fun c_2 => ?_⟩
  · replace h := gw_ifp2 (gw_c2_ne _ _) h c_2
    refine hK _ _ _ _ _ _ _ ?_
    rw [fdX11_plainAct_170]
    simp only [gt_nil, true_and, eq_self, gt_vret, bkX11_plainAct_170, ka0_0, ra0_0_0, ka0_1, la0_1]
    obtain rfl := gw_inj1 h
    exact ⟨hcc, hss, hq⟩
  · replace h := gw_ifn2 (gw_c2_ne _ _) h c_2
    obtain ⟨r_3, e_5, h⟩ := gw_bnd h
    refine ⟨rfl, 0, 0, hcc, hss, ok_X11_hasPlace hS0 e_5 ?_⟩
    intro hbr_3
    simp only [gt_nil, true_and, eq_self, gt_if, gt_aload_n, gt_rfk, gw_nth, gt_get_r, gt_get_i, gt_get_z, gt_put_i, gt_putz, Option.toList, List.cons_append, List.nil_append, Nat.add_zero, ka0_0, ra0_0_0, ka0_1, la0_1]
    refine ⟨fun c_7 => ?_, fun c_7 => ?_⟩
    · replace h := gw_ifp h c_7
      refine hK _ _ _ _ _ _ _ ?_
      rw [fdX11_plainAct_170]
      simp only [gt_nil, true_and, eq_self, gt_vret, bkX11_plainAct_170, ka0_0, ra0_0_0, ka0_1, la0_1]
      obtain rfl := gw_inj1 h
      exact ⟨hcc, hss, hq⟩
    · replace h := gw_ifn h c_7
      obtain ⟨μ_8, hμ_8, h⟩ := gw_lt h
      try rw [← hμ_8]
      refine hK _ _ _ _ _ _ _ ?_
      rw [fdX11_plainAct_170]
      simp only [gt_nil, true_and, eq_self, gt_vret, bkX11_plainAct_170, ka0_0, ra0_0_0, ka0_1, la0_1]
      obtain rfl := gw_inj1 h
      exact ⟨hcc, hss, hq⟩
theorem ok_X11_plainAct {l : Launch} {x : gw_C} {d : Nat} {S : gw_S} {Q : Option Value → gw_S → gw_M → Prop} {v1 v2 : Int32} {a0 : Nat} {n0 : Nat} {μ : gw_M} {μ'} (hS0 : gw_sh S 11 a0) (h : F_X11_plainAct n0 a0 v1 v2 μ = some μ') (hq : Q none S μ') : gw_ok l x (d + 5) sgX11_plainAct 0 0 [.ref a0, .int v1, .int v2] S μ Q := by
  refine gw_ok_of stX11_plainAct (lv0 := [.ref a0, .int v1, .int v2, .retAddr 0]) (Nat.le_of_ble_eq_true rfl) rfl rfl ?_
  intro K hK
  have hcc : 0 ≤ 0 := Nat.zero_le _
  have hss : 0 ≤ 0 := Nat.zero_le _
  have ka0_0 : gw_kd S a0 = 11 := (hS0 0 _ rfl).1
  have ra0_0_0 : gw_rf S a0 0 = a0 + 1 := (hS0 0 _ rfl).2.2 (0, 1) (by decide)
  have ka0_1 : gw_kd S (a0 + 1) = 12 := (hS0 1 _ rfl).1
  have la0_1 : gw_ln S (a0 + 1) = 20813 := (hS0 1 _ rfl).2.1
  unfold F_X11_plainAct at h
  refine hK _ _ _ _ _ _ _ ?_
  rw [fdX11_plainAct_0]
  simp only [gt_nil, true_and, eq_self, gt_iload_n, gt_ink, gw_nth, gt_bipush, gt_iadd, gt_iconst, gt_imul, gt_istore_n, gw_set, gt_aload_n, gt_rfk, gt_get_r, gt_get_i, gt_get_z, gt_iaload, gt_irem, gt_put_i, gt_putz, gt_icmp, gt_v0, gt_v1, gt_v2, gt_v3, gt_v4, gt_v5, gt_goto, bkX11_plainAct_0, ka0_0, ra0_0_0, ka0_1, la0_1]
  obtain ⟨w_1, hw_1, h⟩ := gw_lt h
  try rw [← hw_1]
  obtain ⟨c_2, h⟩ := gw_ife h
  refine ⟨c_2, ?_⟩
  obtain ⟨c_3, h⟩ := gw_ife h
  refine ⟨c_3, ?_⟩
  obtain ⟨μ_4, hμ_4, h⟩ := gw_lt h
  try rw [← hμ_4]
  obtain ⟨c_5, h⟩ := gw_ife h
  refine ⟨c_5, ?_⟩
  refine ⟨fun c_6 => ?_, fun c_6 => ?_⟩
  · replace h := gw_ifp2 (gw_c2_ge _ _) h c_6
    refine hK _ _ _ _ _ _ _ ?_
    rw [fdX11_plainAct_67]
    simp only [gt_nil, true_and, eq_self, gt_aload_n, gt_rfk, gw_nth, gt_get_r, gt_get_i, gt_get_z, gt_iload_n, gt_ink, gt_iaload, gt_bipush, gt_icmp, gt_iconst, gt_iadd, gt_v0, gt_v1, gt_v2, gt_v3, gt_v4, gt_v5, gt_goto, bkX11_plainAct_67, ka0_0, ra0_0_0, ka0_1, la0_1]
    obtain ⟨c_7, h⟩ := gw_ife h
    refine ⟨c_7, ?_⟩
    refine ⟨fun c_8 => ?_, fun c_8 => ?_⟩
    · replace h := gw_ifp2 (gw_c2_ne _ _) h c_8
      refine hK _ _ _ _ _ _ _ ?_
      rw [fdX11_plainAct_101]
      simp only [gt_nil, true_and, eq_self, gt_aload_n, gt_rfk, gw_nth, gt_get_r, gt_get_i, gt_get_z, gt_iload_n, gt_ink, gt_iaload, gt_bipush, gt_icmp, gt_iconst, gt_iadd, gt_v0, gt_v1, gt_v2, gt_v3, gt_v4, gt_v5, gt_goto, bkX11_plainAct_101, ka0_0, ra0_0_0, ka0_1, la0_1]
      obtain ⟨c_9, h⟩ := gw_ife h
      refine ⟨c_9, ?_⟩
      refine ⟨fun c_10 => ?_, fun c_10 => ?_⟩
      · replace h := gw_ifp2 (gw_c2_ne _ _) h c_10
        exact B_X11_plainAct_139 hcc hss hK hS0 h hq
      · replace h := gw_ifn2 (gw_c2_ne _ _) h c_10
        refine ⟨fun c_11 => ?_, fun c_11 => ?_⟩
        · replace h := gw_ifp2 (gw_c2_eq _ _) h c_11
          exact B_X11_plainAct_139 hcc hss hK hS0 h hq
        · replace h := gw_ifn2 (gw_c2_eq _ _) h c_11
          obtain ⟨c_12, h⟩ := gw_ife h
          refine ⟨c_12, ?_⟩
          obtain ⟨μ_14, e_15, h⟩ := gw_bnd h
          refine ⟨rfl, 0, 0, hcc, hss, ok_X11_plainTell hS0 e_15 ?_⟩
          simp only [gt_nil, true_and, eq_self, gt_goto, Option.toList, List.cons_append, List.nil_append, Nat.add_zero, ka0_0, ra0_0_0, ka0_1, la0_1]
          refine hK _ _ _ _ _ _ _ ?_
          rw [fdX11_plainAct_170]
          simp only [gt_nil, true_and, eq_self, gt_vret, bkX11_plainAct_170, ka0_0, ra0_0_0, ka0_1, la0_1]
          obtain rfl := gw_inj1 h
          exact ⟨hcc, hss, hq⟩
    · replace h := gw_ifn2 (gw_c2_ne _ _) h c_8
      obtain ⟨c_17, h⟩ := gw_ife h
      refine ⟨c_17, ?_⟩
      obtain ⟨c_18, h⟩ := gw_ife h
      refine ⟨c_18, ?_⟩
      obtain ⟨μ_20, e_21, h⟩ := gw_bnd h
      refine ⟨rfl, 0, 0, hcc, hss, ok_X11_plainTell hS0 e_21 ?_⟩
      simp only [gt_nil, true_and, eq_self, gt_goto, Option.toList, List.cons_append, List.nil_append, Nat.add_zero, ka0_0, ra0_0_0, ka0_1, la0_1]
      refine hK _ _ _ _ _ _ _ ?_
      rw [fdX11_plainAct_170]
      simp only [gt_nil, true_and, eq_self, gt_vret, bkX11_plainAct_170, ka0_0, ra0_0_0, ka0_1, la0_1]
      obtain rfl := gw_inj1 h
      exact ⟨hcc, hss, hq⟩
  · replace h := gw_ifn2 (gw_c2_ge _ _) h c_6
    obtain ⟨c_23, h⟩ := gw_ife h
    refine ⟨c_23, ?_⟩
    obtain ⟨c_24, h⟩ := gw_ife h
    refine ⟨c_24, ?_⟩
    obtain ⟨c_25, h⟩ := gw_ife h
    refine ⟨c_25, ?_⟩
    obtain ⟨μ_27, e_28, h⟩ := gw_bnd h
    refine ⟨rfl, 0, 0, hcc, hss, ok_X11_plainTouch hS0 e_28 ?_⟩
    simp only [gt_nil, true_and, eq_self, gt_goto, Option.toList, List.cons_append, List.nil_append, Nat.add_zero, ka0_0, ra0_0_0, ka0_1, la0_1]
    refine hK _ _ _ _ _ _ _ ?_
    rw [fdX11_plainAct_170]
    simp only [gt_nil, true_and, eq_self, gt_vret, bkX11_plainAct_170, ka0_0, ra0_0_0, ka0_1, la0_1]
    obtain rfl := gw_inj1 h
    exact ⟨hcc, hss, hq⟩
def F_X11_layPlain_116 (n0 : Nat) (a0 : Nat) : Nat → Int32 → Int32 → Int32 → gw_M → Option (gw_M)
  | 0, _, _, _, _ => none
  | n + 1, v1, v2, v3, μ => (if v1 ≤ v3 then some μ else (if 0 ≤ (v2 + (6 : Int32)) ∧ (v2 + (6 : Int32)).toNatClampNeg < 20813 then (if (μ (a0 + 1) (v2 + (6 : Int32)).toNatClampNeg) ≤ 0 then some μ else (F_X11_plainAct n0 a0 v2 (μ a0 7) μ).bind (fun (μ_5 : gw_M) => gw_let (v3 + 1) (fun (w_8 : Int32) => F_X11_layPlain_116 n0 a0 n v1 v2 w_8 μ_5))) else none))
def F_X11_layPlain_33 (n0 : Nat) (a0 : Nat) : Nat → Int32 → Int32 → Int32 → gw_M → Option (gw_M)
  | 0, _, _, _, _ => none
  | n + 1, v1, v2, v3, μ => (if 32 ≤ v3 then gw_let (gw_up μ a0 5 0) (fun (μ_2 : gw_M) => gw_let (gw_up μ_2 a0 6 (-1)) (fun (μ_3 : gw_M) => (if 0 ≤ (v2 + (5 : Int32)) ∧ (v2 + (5 : Int32)).toNatClampNeg < 20813 then gw_let (gw_up μ_3 a0 7 (μ_3 (a0 + 1) (v2 + (5 : Int32)).toNatClampNeg)) (fun (μ_5 : gw_M) => (if 0 ≤ (v2 + (144 : Int32)) ∧ (v2 + (144 : Int32)).toNatClampNeg < 20813 then gw_let (gw_up μ_5 a0 8 (μ_5 (a0 + 1) (v2 + (144 : Int32)).toNatClampNeg)) (fun (μ_7 : gw_M) => (if 0 ≤ ((v2 + (144 : Int32)) + (1 : Int32)) ∧ ((v2 + (144 : Int32)) + (1 : Int32)).toNatClampNeg < 20813 then gw_let (gw_up μ_7 a0 9 (μ_7 (a0 + 1) ((v2 + (144 : Int32)) + (1 : Int32)).toNatClampNeg)) (fun (μ_9 : gw_M) => F_X11_layPlain_116 n0 a0 n0 v1 v2 0 μ_9) else none)) else none)) else none))) else (if 0 ≤ ((v2 + (79 : Int32)) + v3) ∧ ((v2 + (79 : Int32)) + v3).toNatClampNeg < 20813 then (if 0 ≤ v3 ∧ v3.toNatClampNeg < 32 then gw_let (gw_up μ (a0 + 5) v3.toNatClampNeg (μ (a0 + 1) ((v2 + (79 : Int32)) + v3).toNatClampNeg)) (fun (μ_12 : gw_M) => gw_let (v3 + 1) (fun (w_13 : Int32) => F_X11_layPlain_33 n0 a0 n v1 v2 w_13 μ_12)) else none) else none))
def F_X11_layPlain_8 (n0 : Nat) (a0 : Nat) : Nat → Int32 → Int32 → Int32 → gw_M → Option (gw_M)
  | 0, _, _, _, _ => none
  | n + 1, v1, v2, v3, μ => (if 16 ≤ v3 then F_X11_layPlain_33 n0 a0 n0 v1 v2 0 μ else (F_X11_plainValue n0 a0 v3 μ).bind (fun (r_2 : Int32) => (if 0 ≤ v3 ∧ v3.toNatClampNeg < 16 then gw_let (gw_up μ (a0 + 4) v3.toNatClampNeg r_2) (fun (μ_7 : gw_M) => gw_let (v3 + 1) (fun (w_8 : Int32) => F_X11_layPlain_8 n0 a0 n v1 v2 w_8 μ_7)) else none)))
def F_X11_layPlain (n0 : Nat) (a0 : Nat) (v1 : Int32) (μ : gw_M) : Option (gw_M) := (F_X11_guestAt n0 a0 2 μ).bind (fun (r_1 : Int32) => F_X11_layPlain_8 n0 a0 n0 v1 r_1 0 μ)
theorem B_X11_layPlain_116 {l : Launch} {x : gw_C} {d : Nat} {S : gw_S} {Q : Option Value → gw_S → gw_M → Prop} {K : Nat → gw_Kt} {mc ms cc ss : Nat} (hcc : cc ≤ mc) (hss : ss ≤ ms) (hK : gw_cl l x (d + 5) mc ms bsX11_layPlain Q K) {a0 : Nat} (hS0 : gw_sh S 11 a0) {n0 : Nat} : ∀ {n : Nat} {v1 v2 v3} {μ : gw_M} {μ'}, F_X11_layPlain_116 n0 a0 n v1 v2 v3 μ = some μ' → Q none S μ' → K 116 [.ref a0, .int v1, .int v2, .int v3] [] S μ cc ss := by
  have ka0_0 : gw_kd S a0 = 11 := (hS0 0 _ rfl).1
  have ra0_0_0 : gw_rf S a0 0 = a0 + 1 := (hS0 0 _ rfl).2.2 (0, 1) (by decide)
  have ka0_1 : gw_kd S (a0 + 1) = 12 := (hS0 1 _ rfl).1
  have la0_1 : gw_ln S (a0 + 1) = 20813 := (hS0 1 _ rfl).2.1
  intro n
  induction n with
  | zero => intro v1 v2 v3 μ μ' h hq; simp [F_X11_layPlain_116] at h
  | succ n ih =>
    intro v1 v2 v3 μ μ' h hq
    simp only [F_X11_layPlain_116] at h
    refine hK _ _ _ _ _ _ _ ?_
    rw [fdX11_layPlain_116]
    simp only [gt_nil, true_and, eq_self, gt_iload_n, gt_ink, gw_nth, gt_icmp, gt_aload_n, gt_rfk, gt_get_r, gt_get_i, gt_get_z, gt_bipush, gt_iadd, gt_iaload, gt_if, gt_v0, gt_v1, gt_v2, gt_v3, gt_v4, gt_v5, gt_iinc, gw_set, gt_goto, bkX11_layPlain_116, ka0_0, ra0_0_0, ka0_1, la0_1]
    refine ⟨fun c_1 => ?_, fun c_1 => ?_⟩
    · replace h := gw_ifp2 (gw_c2_ge _ _) h c_1
      refine hK _ _ _ _ _ _ _ ?_
      rw [fdX11_layPlain_148]
      simp only [gt_nil, true_and, eq_self, gt_vret, bkX11_layPlain_148, ka0_0, ra0_0_0, ka0_1, la0_1]
      obtain rfl := gw_inj1 h
      exact ⟨hcc, hss, hq⟩
    · replace h := gw_ifn2 (gw_c2_ge _ _) h c_1
      obtain ⟨c_2, h⟩ := gw_ife h
      refine ⟨c_2, ?_⟩
      refine ⟨fun c_3 => ?_, fun c_3 => ?_⟩
      · replace h := gw_ifp h c_3
        refine hK _ _ _ _ _ _ _ ?_
        rw [fdX11_layPlain_148]
        simp only [gt_nil, true_and, eq_self, gt_vret, bkX11_layPlain_148, ka0_0, ra0_0_0, ka0_1, la0_1]
        obtain rfl := gw_inj1 h
        exact ⟨hcc, hss, hq⟩
      · replace h := gw_ifn h c_3
        obtain ⟨μ_5, e_6, h⟩ := gw_bnd h
        refine ⟨rfl, 0, 0, hcc, hss, ok_X11_plainAct hS0 e_6 ?_⟩
        simp only [gt_nil, true_and, eq_self, gt_iinc, gt_ink, gw_nth, gw_set, gt_goto, Option.toList, List.cons_append, List.nil_append, Nat.add_zero, ka0_0, ra0_0_0, ka0_1, la0_1]
        obtain ⟨w_8, hw_8, h⟩ := gw_lt h
        try rw [← hw_8]
        exact ih h hq
theorem B_X11_layPlain_33 {l : Launch} {x : gw_C} {d : Nat} {S : gw_S} {Q : Option Value → gw_S → gw_M → Prop} {K : Nat → gw_Kt} {mc ms cc ss : Nat} (hcc : cc ≤ mc) (hss : ss ≤ ms) (hK : gw_cl l x (d + 5) mc ms bsX11_layPlain Q K) {a0 : Nat} (hS0 : gw_sh S 11 a0) {n0 : Nat} : ∀ {n : Nat} {v1 v2 v3} {μ : gw_M} {μ'}, F_X11_layPlain_33 n0 a0 n v1 v2 v3 μ = some μ' → Q none S μ' → K 33 [.ref a0, .int v1, .int v2, .int v3] [] S μ cc ss := by
  have ka0_0 : gw_kd S a0 = 11 := (hS0 0 _ rfl).1
  have ra0_0_0 : gw_rf S a0 0 = a0 + 1 := (hS0 0 _ rfl).2.2 (0, 1) (by decide)
  have ra0_0_4 : gw_rf S a0 4 = a0 + 5 := (hS0 0 _ rfl).2.2 (4, 5) (by decide)
  have ka0_1 : gw_kd S (a0 + 1) = 12 := (hS0 1 _ rfl).1
  have la0_1 : gw_ln S (a0 + 1) = 20813 := (hS0 1 _ rfl).2.1
  have ka0_5 : gw_kd S (a0 + 5) = 12 := (hS0 5 _ rfl).1
  have la0_5 : gw_ln S (a0 + 5) = 32 := (hS0 5 _ rfl).2.1
  intro n
  induction n with
  | zero => intro v1 v2 v3 μ μ' h hq; simp [F_X11_layPlain_33] at h
  | succ n ih =>
    intro v1 v2 v3 μ μ' h hq
    simp only [F_X11_layPlain_33] at h
    refine hK _ _ _ _ _ _ _ ?_
    rw [fdX11_layPlain_33]
    simp only [gt_nil, true_and, eq_self, gt_iload_n, gt_ink, gw_nth, gt_bipush, gt_icmp, gt_aload_n, gt_rfk, gt_get_r, gt_get_i, gt_get_z, gt_iadd, gt_iaload, gt_iastore, gt_iinc, gw_set, gt_goto, bkX11_layPlain_33, ka0_0, ra0_0_0, ra0_0_4, ka0_1, la0_1, ka0_5, la0_5]
    refine ⟨fun c_1 => ?_, fun c_1 => ?_⟩
    · replace h := gw_ifp2 (gw_c2_ge _ _) h c_1
      refine hK _ _ _ _ _ _ _ ?_
      rw [fdX11_layPlain_62]
      simp only [gt_nil, true_and, eq_self, gt_aload_n, gt_rfk, gw_nth, gt_iconst, gt_put_i, gt_putz, gt_get_r, gt_get_i, gt_get_z, gt_iload_n, gt_ink, gt_iadd, gt_iaload, gt_sipush, gt_istore_n, gw_set, bkX11_layPlain_62, ka0_0, ra0_0_0, ra0_0_4, ka0_1, la0_1, ka0_5, la0_5]
      obtain ⟨μ_2, hμ_2, h⟩ := gw_lt h
      try rw [← hμ_2]
      obtain ⟨μ_3, hμ_3, h⟩ := gw_lt h
      try rw [← hμ_3]
      obtain ⟨c_4, h⟩ := gw_ife h
      refine ⟨c_4, ?_⟩
      obtain ⟨μ_5, hμ_5, h⟩ := gw_lt h
      try rw [← hμ_5]
      obtain ⟨c_6, h⟩ := gw_ife h
      refine ⟨c_6, ?_⟩
      obtain ⟨μ_7, hμ_7, h⟩ := gw_lt h
      try rw [← hμ_7]
      obtain ⟨c_8, h⟩ := gw_ife h
      refine ⟨c_8, ?_⟩
      obtain ⟨μ_9, hμ_9, h⟩ := gw_lt h
      try rw [← hμ_9]
      exact B_X11_layPlain_116 hcc hss hK hS0 h hq
    · replace h := gw_ifn2 (gw_c2_ge _ _) h c_1
      obtain ⟨c_10, h⟩ := gw_ife h
      refine ⟨c_10, ?_⟩
      obtain ⟨c_11, h⟩ := gw_ife h
      refine ⟨c_11, ?_⟩
      obtain ⟨μ_12, hμ_12, h⟩ := gw_lt h
      try rw [← hμ_12]
      obtain ⟨w_13, hw_13, h⟩ := gw_lt h
      try rw [← hw_13]
      exact ih h hq
theorem B_X11_layPlain_8 {l : Launch} {x : gw_C} {d : Nat} {S : gw_S} {Q : Option Value → gw_S → gw_M → Prop} {K : Nat → gw_Kt} {mc ms cc ss : Nat} (hcc : cc ≤ mc) (hss : ss ≤ ms) (hK : gw_cl l x (d + 5) mc ms bsX11_layPlain Q K) {a0 : Nat} (hS0 : gw_sh S 11 a0) {n0 : Nat} : ∀ {n : Nat} {v1 v2 v3} {μ : gw_M} {μ'}, F_X11_layPlain_8 n0 a0 n v1 v2 v3 μ = some μ' → Q none S μ' → K 8 [.ref a0, .int v1, .int v2, .int v3] [] S μ cc ss := by
  have ka0_0 : gw_kd S a0 = 11 := (hS0 0 _ rfl).1
  have ra0_0_3 : gw_rf S a0 3 = a0 + 4 := (hS0 0 _ rfl).2.2 (3, 4) (by decide)
  have ka0_4 : gw_kd S (a0 + 4) = 12 := (hS0 4 _ rfl).1
  have la0_4 : gw_ln S (a0 + 4) = 16 := (hS0 4 _ rfl).2.1
  intro n
  induction n with
  | zero => intro v1 v2 v3 μ μ' h hq; simp [F_X11_layPlain_8] at h
  | succ n ih =>
    intro v1 v2 v3 μ μ' h hq
    simp only [F_X11_layPlain_8] at h
    refine hK _ _ _ _ _ _ _ ?_
    rw [fdX11_layPlain_8]
    simp only [gt_nil, true_and, eq_self, gt_iload_n, gt_ink, gw_nth, gt_bipush, gt_icmp, gt_aload_n, gt_rfk, gt_get_r, gt_get_i, gt_get_z, gt_v0, gt_v1, gt_v2, gt_v3, gt_v4, gt_v5, gt_iastore, gt_iinc, gw_set, gt_goto, bkX11_layPlain_8, ka0_0, ra0_0_3, ka0_4, la0_4]
    refine ⟨fun c_1 => ?_, fun c_1 => ?_⟩
    · replace h := gw_ifp2 (gw_c2_ge _ _) h c_1
      refine hK _ _ _ _ _ _ _ ?_
      rw [fdX11_layPlain_31]
      simp only [gt_nil, true_and, eq_self, gt_iconst, gt_istore_n, gw_set, bkX11_layPlain_31, ka0_0, ra0_0_3, ka0_4, la0_4]
      exact B_X11_layPlain_33 hcc hss hK hS0 h hq
    · replace h := gw_ifn2 (gw_c2_ge _ _) h c_1
      obtain ⟨r_2, e_4, h⟩ := gw_bnd h
      refine ⟨rfl, 0, 0, hcc, hss, ok_X11_plainValue hS0 e_4 ?_⟩
      simp only [gt_nil, true_and, eq_self, gt_iastore, gt_iinc, gt_ink, gw_nth, gw_set, gt_goto, Option.toList, List.cons_append, List.nil_append, Nat.add_zero, ka0_0, ra0_0_3, ka0_4, la0_4]
      obtain ⟨c_6, h⟩ := gw_ife h
      refine ⟨c_6, ?_⟩
      obtain ⟨μ_7, hμ_7, h⟩ := gw_lt h
      try rw [← hμ_7]
      obtain ⟨w_8, hw_8, h⟩ := gw_lt h
      try rw [← hw_8]
      exact ih h hq
theorem ok_X11_layPlain {l : Launch} {x : gw_C} {d : Nat} {S : gw_S} {Q : Option Value → gw_S → gw_M → Prop} {v1 : Int32} {a0 : Nat} {n0 : Nat} {μ : gw_M} {μ'} (hS0 : gw_sh S 11 a0) (h : F_X11_layPlain n0 a0 v1 μ = some μ') (hq : Q none S μ') : gw_ok l x (d + 6) sgX11_layPlain 0 0 [.ref a0, .int v1] S μ Q := by
  refine gw_ok_of stX11_layPlain (lv0 := [.ref a0, .int v1, .retAddr 0, .retAddr 0]) (Nat.le_of_ble_eq_true rfl) rfl rfl ?_
  intro K hK
  have hcc : 0 ≤ 0 := Nat.zero_le _
  have hss : 0 ≤ 0 := Nat.zero_le _
  have ka0_0 : gw_kd S a0 = 11 := (hS0 0 _ rfl).1
  unfold F_X11_layPlain at h
  refine hK _ _ _ _ _ _ _ ?_
  rw [fdX11_layPlain_0]
  simp only [gt_nil, true_and, eq_self, gt_aload_n, gt_rfk, gw_nth, gt_iconst, gt_v0, gt_v1, gt_v2, gt_v3, gt_v4, gt_v5, gt_istore_n, gw_set, bkX11_layPlain_0, ka0_0]
  obtain ⟨r_1, e_3, h⟩ := gw_bnd h
  refine ⟨rfl, 0, 0, hcc, hss, ok_X11_guestAt hS0 e_3 ?_⟩
  simp only [gt_nil, true_and, eq_self, gt_istore_n, gw_set, gt_iconst, Option.toList, List.cons_append, List.nil_append, Nat.add_zero, ka0_0]
  exact B_X11_layPlain_8 hcc hss hK hS0 h hq
def F_X11_plainly (n0 : Nat) (a0 : Nat) (v1 : Int32) (v2 : Int32) (μ : gw_M) : Option (Int32 × gw_M) := (F_X11_isIn n0 v1 1 200 μ).bind (fun (r_1 : Int32) => (if r_1 = 0 then some ((-1), μ) else (F_X11_isPage n0 v2 μ).bind (fun (r_6 : Int32) => (if ¬ r_6 = 0 then (F_X11_layPlain n0 a0 v1 μ).bind (fun (μ_12 : gw_M) => (if 0 ≤ v2 ∧ v2.toNatClampNeg < 16 then some ((μ_12 (a0 + 4) v2.toNatClampNeg), μ_12) else none)) else some ((-1), μ)))))
theorem ok_X11_plainly {l : Launch} {x : gw_C} {d : Nat} {S : gw_S} {Q : Option Value → gw_S → gw_M → Prop} {v1 v2 : Int32} {a0 : Nat} {n0 : Nat} {μ : gw_M} {r μ'} (hS0 : gw_sh S 11 a0) (h : F_X11_plainly n0 a0 v1 v2 μ = some (r, μ')) (hq : Q (some (.int r)) S μ') : gw_ok l x (d + 7) sgX11_plainly 0 0 [.ref a0, .int v1, .int v2] S μ Q := by
  refine gw_ok_of stX11_plainly (lv0 := [.ref a0, .int v1, .int v2]) (Nat.le_of_ble_eq_true rfl) rfl rfl ?_
  intro K hK
  have hcc : 0 ≤ 0 := Nat.zero_le _
  have hss : 0 ≤ 0 := Nat.zero_le _
  have ka0_0 : gw_kd S a0 = 11 := (hS0 0 _ rfl).1
  have ra0_0_3 : gw_rf S a0 3 = a0 + 4 := (hS0 0 _ rfl).2.2 (3, 4) (by decide)
  have ka0_4 : gw_kd S (a0 + 4) = 12 := (hS0 4 _ rfl).1
  have la0_4 : gw_ln S (a0 + 4) = 16 := (hS0 4 _ rfl).2.1
  unfold F_X11_plainly at h
  refine hK _ _ _ _ _ _ _ ?_
  rw [fdX11_plainly_0]
  simp only [gt_nil, true_and, eq_self, gt_iload_n, gt_ink, gw_nth, gt_iconst, gt_sipush, gt_s1_0, gt_s2_0, gt_s3_0, gt_s4_0, gt_s1_1, gt_s2_1, gt_s3_1, gt_s4_1, gt_acpy, gt_if, bkX11_plainly_0, ka0_0, ra0_0_3, ka0_4, la0_4]
  obtain ⟨r_1, e_3, h⟩ := gw_bnd h
  refine ⟨rfl, 0, 0, hcc, hss, ok_X11_isIn e_3 ?_⟩
  intro hbr_1
  simp only [gt_nil, true_and, eq_self, gt_if, gt_iload_n, gt_ink, gw_nth, gt_s1_0, gt_s2_0, gt_s3_0, gt_s4_0, gt_s1_1, gt_s2_1, gt_s3_1, gt_s4_1, gt_acpy, Option.toList, List.cons_append, List.nil_append, Nat.add_zero, ka0_0, ra0_0_3, ka0_4, la0_4]
  refine ⟨fun c_5 => ?_, fun c_5 => ?_⟩
  · replace h := gw_ifp h c_5
    refine hK _ _ _ _ _ _ _ ?_
    rw [fdX11_plainly_18]
    simp only [gt_nil, true_and, eq_self, gt_iconst, gt_iret, gt_retz, bkX11_plainly_18, ka0_0, ra0_0_3, ka0_4, la0_4]
    obtain ⟨rfl, rfl⟩ := gw_inj2 h
    exact ⟨hcc, hss, hq⟩
  · replace h := gw_ifn h c_5
    obtain ⟨r_6, e_8, h⟩ := gw_bnd h
    refine ⟨rfl, 0, 0, hcc, hss, ok_X11_isPage e_8 ?_⟩
    intro hbr_6
    simp only [gt_nil, true_and, eq_self, gt_if, Option.toList, List.cons_append, List.nil_append, Nat.add_zero, ka0_0, ra0_0_3, ka0_4, la0_4]
    refine ⟨fun c_10 => ?_, fun c_10 => ?_⟩
    · replace h := gw_ifp h c_10
      refine hK _ _ _ _ _ _ _ ?_
      rw [fdX11_plainly_20]
      simp only [gt_nil, true_and, eq_self, gt_aload_n, gt_rfk, gw_nth, gt_iload_n, gt_ink, gt_v0, gt_v1, gt_v2, gt_v3, gt_v4, gt_v5, gt_get_r, gt_get_i, gt_get_z, gt_iaload, gt_iret, gt_retz, bkX11_plainly_20, ka0_0, ra0_0_3, ka0_4, la0_4]
      obtain ⟨μ_12, e_13, h⟩ := gw_bnd h
      refine ⟨rfl, 0, 0, hcc, hss, ok_X11_layPlain hS0 e_13 ?_⟩
      simp only [gt_nil, true_and, eq_self, gt_aload_n, gt_rfk, gw_nth, gt_get_r, gt_get_i, gt_get_z, gt_iload_n, gt_ink, gt_iaload, gt_iret, gt_retz, Option.toList, List.cons_append, List.nil_append, Nat.add_zero, ka0_0, ra0_0_3, ka0_4, la0_4]
      obtain ⟨c_15, h⟩ := gw_ife h
      refine ⟨c_15, ?_⟩
      obtain ⟨rfl, rfl⟩ := gw_inj2 h
      exact ⟨hcc, hss, hq⟩
    · replace h := gw_ifn h c_10
      refine hK _ _ _ _ _ _ _ ?_
      rw [fdX11_plainly_18]
      simp only [gt_nil, true_and, eq_self, gt_iconst, gt_iret, gt_retz, bkX11_plainly_18, ka0_0, ra0_0_3, ka0_4, la0_4]
      obtain ⟨rfl, rfl⟩ := gw_inj2 h
      exact ⟨hcc, hss, hq⟩
def F_X11_plainTraps (n0 : Nat) (a0 : Nat) (v1 : Int32) (μ : gw_M) : Option (Int32 × gw_M) := (F_X11_isIn n0 v1 1 200 μ).bind (fun (r_1 : Int32) => (if ¬ r_1 = 0 then (F_X11_layPlain n0 a0 v1 μ).bind (fun (μ_7 : gw_M) => some ((μ_7 a0 5), μ_7)) else some ((-1), μ)))
theorem ok_X11_plainTraps {l : Launch} {x : gw_C} {d : Nat} {S : gw_S} {Q : Option Value → gw_S → gw_M → Prop} {v1 : Int32} {a0 : Nat} {n0 : Nat} {μ : gw_M} {r μ'} (hS0 : gw_sh S 11 a0) (h : F_X11_plainTraps n0 a0 v1 μ = some (r, μ')) (hq : Q (some (.int r)) S μ') : gw_ok l x (d + 7) sgX11_plainTraps 0 0 [.ref a0, .int v1] S μ Q := by
  refine gw_ok_of stX11_plainTraps (lv0 := [.ref a0, .int v1]) (Nat.le_of_ble_eq_true rfl) rfl rfl ?_
  intro K hK
  have hcc : 0 ≤ 0 := Nat.zero_le _
  have hss : 0 ≤ 0 := Nat.zero_le _
  have ka0_0 : gw_kd S a0 = 11 := (hS0 0 _ rfl).1
  unfold F_X11_plainTraps at h
  refine hK _ _ _ _ _ _ _ ?_
  rw [fdX11_plainTraps_0]
  simp only [gt_nil, true_and, eq_self, gt_iload_n, gt_ink, gw_nth, gt_iconst, gt_sipush, gt_s1_0, gt_s2_0, gt_s3_0, gt_s4_0, gt_s1_1, gt_s2_1, gt_s3_1, gt_s4_1, gt_acpy, gt_if, gt_iret, gt_retz, bkX11_plainTraps_0, ka0_0]
  obtain ⟨r_1, e_3, h⟩ := gw_bnd h
  refine ⟨rfl, 0, 0, hcc, hss, ok_X11_isIn e_3 ?_⟩
  intro hbr_1
  simp only [gt_nil, true_and, eq_self, gt_if, gt_iconst, gt_iret, gt_retz, Option.toList, List.cons_append, List.nil_append, Nat.add_zero, ka0_0]
  refine ⟨fun c_5 => ?_, fun c_5 => ?_⟩
  · replace h := gw_ifp h c_5
    refine hK _ _ _ _ _ _ _ ?_
    rw [fdX11_plainTraps_13]
    simp only [gt_nil, true_and, eq_self, gt_aload_n, gt_rfk, gw_nth, gt_iload_n, gt_ink, gt_v0, gt_v1, gt_v2, gt_v3, gt_v4, gt_v5, gt_get_r, gt_get_i, gt_get_z, gt_iret, gt_retz, bkX11_plainTraps_13, ka0_0]
    obtain ⟨μ_7, e_8, h⟩ := gw_bnd h
    refine ⟨rfl, 0, 0, hcc, hss, ok_X11_layPlain hS0 e_8 ?_⟩
    simp only [gt_nil, true_and, eq_self, gt_aload_n, gt_rfk, gw_nth, gt_get_r, gt_get_i, gt_get_z, gt_iret, gt_retz, Option.toList, List.cons_append, List.nil_append, Nat.add_zero, ka0_0]
    obtain ⟨rfl, rfl⟩ := gw_inj2 h
    exact ⟨hcc, hss, hq⟩
  · replace h := gw_ifn h c_5
    obtain ⟨rfl, rfl⟩ := gw_inj2 h
    exact ⟨hcc, hss, hq⟩
def F_X11_plainHeard (n0 : Nat) (a0 : Nat) (v1 : Int32) (μ : gw_M) : Option (Int32 × gw_M) := (F_X11_isIn n0 v1 1 200 μ).bind (fun (r_1 : Int32) => (if ¬ r_1 = 0 then (F_X11_layPlain n0 a0 v1 μ).bind (fun (μ_7 : gw_M) => some ((μ_7 a0 6), μ_7)) else some ((-1), μ)))
theorem ok_X11_plainHeard {l : Launch} {x : gw_C} {d : Nat} {S : gw_S} {Q : Option Value → gw_S → gw_M → Prop} {v1 : Int32} {a0 : Nat} {n0 : Nat} {μ : gw_M} {r μ'} (hS0 : gw_sh S 11 a0) (h : F_X11_plainHeard n0 a0 v1 μ = some (r, μ')) (hq : Q (some (.int r)) S μ') : gw_ok l x (d + 7) sgX11_plainHeard 0 0 [.ref a0, .int v1] S μ Q := by
  refine gw_ok_of stX11_plainHeard (lv0 := [.ref a0, .int v1]) (Nat.le_of_ble_eq_true rfl) rfl rfl ?_
  intro K hK
  have hcc : 0 ≤ 0 := Nat.zero_le _
  have hss : 0 ≤ 0 := Nat.zero_le _
  have ka0_0 : gw_kd S a0 = 11 := (hS0 0 _ rfl).1
  unfold F_X11_plainHeard at h
  refine hK _ _ _ _ _ _ _ ?_
  rw [fdX11_plainHeard_0]
  simp only [gt_nil, true_and, eq_self, gt_iload_n, gt_ink, gw_nth, gt_iconst, gt_sipush, gt_s1_0, gt_s2_0, gt_s3_0, gt_s4_0, gt_s1_1, gt_s2_1, gt_s3_1, gt_s4_1, gt_acpy, gt_if, gt_iret, gt_retz, bkX11_plainHeard_0, ka0_0]
  obtain ⟨r_1, e_3, h⟩ := gw_bnd h
  refine ⟨rfl, 0, 0, hcc, hss, ok_X11_isIn e_3 ?_⟩
  intro hbr_1
  simp only [gt_nil, true_and, eq_self, gt_if, gt_iconst, gt_iret, gt_retz, Option.toList, List.cons_append, List.nil_append, Nat.add_zero, ka0_0]
  refine ⟨fun c_5 => ?_, fun c_5 => ?_⟩
  · replace h := gw_ifp h c_5
    refine hK _ _ _ _ _ _ _ ?_
    rw [fdX11_plainHeard_13]
    simp only [gt_nil, true_and, eq_self, gt_aload_n, gt_rfk, gw_nth, gt_iload_n, gt_ink, gt_v0, gt_v1, gt_v2, gt_v3, gt_v4, gt_v5, gt_get_r, gt_get_i, gt_get_z, gt_iret, gt_retz, bkX11_plainHeard_13, ka0_0]
    obtain ⟨μ_7, e_8, h⟩ := gw_bnd h
    refine ⟨rfl, 0, 0, hcc, hss, ok_X11_layPlain hS0 e_8 ?_⟩
    simp only [gt_nil, true_and, eq_self, gt_aload_n, gt_rfk, gw_nth, gt_get_r, gt_get_i, gt_get_z, gt_iret, gt_retz, Option.toList, List.cons_append, List.nil_append, Nat.add_zero, ka0_0]
    obtain ⟨rfl, rfl⟩ := gw_inj2 h
    exact ⟨hcc, hss, hq⟩
  · replace h := gw_ifn h c_5
    obtain ⟨rfl, rfl⟩ := gw_inj2 h
    exact ⟨hcc, hss, hq⟩
def F_X11_image (n0 : Nat) (a0 : Nat) (μ : gw_M) : Option (Int32 × gw_M) := gw_let (gw_cpy μ (a0 + 1) (a0 + 2) 0 0 20813) (fun (μ_1 : gw_M) => some ((μ_1 (a0 + 1) 3), μ_1))
theorem ok_X11_image {l : Launch} {x : gw_C} {d : Nat} {S : gw_S} {Q : Option Value → gw_S → gw_M → Prop} {a0 : Nat} {n0 : Nat} {μ : gw_M} {r μ'} (hS0 : gw_sh S 11 a0) (h : F_X11_image n0 a0 μ = some (r, μ')) (hq : Q (some (.int r)) S μ') : gw_ok l x (d + 2) sgX11_image 0 0 [.ref a0] S μ Q := by
  refine gw_ok_of stX11_image (lv0 := [.ref a0]) (Nat.le_of_ble_eq_true rfl) rfl rfl ?_
  intro K hK
  have hcc : 0 ≤ 0 := Nat.zero_le _
  have hss : 0 ≤ 0 := Nat.zero_le _
  have ka0_0 : gw_kd S a0 = 11 := (hS0 0 _ rfl).1
  have ra0_0_0 : gw_rf S a0 0 = a0 + 1 := (hS0 0 _ rfl).2.2 (0, 1) (by decide)
  have ra0_0_1 : gw_rf S a0 1 = a0 + 2 := (hS0 0 _ rfl).2.2 (1, 2) (by decide)
  have ka0_1 : gw_kd S (a0 + 1) = 12 := (hS0 1 _ rfl).1
  have la0_1 : gw_ln S (a0 + 1) = 20813 := (hS0 1 _ rfl).2.1
  have ka0_2 : gw_kd S (a0 + 2) = 12 := (hS0 2 _ rfl).1
  have la0_2 : gw_ln S (a0 + 2) = 20813 := (hS0 2 _ rfl).2.1
  unfold F_X11_image at h
  refine hK _ _ _ _ _ _ _ ?_
  rw [fdX11_image_0]
  simp only [gt_nil, true_and, eq_self, gt_aload_n, gt_rfk, gw_nth, gt_get_r, gt_get_i, gt_get_z, gt_s1_0, gt_s2_0, gt_s3_0, gt_s4_0, gt_s1_1, gt_s2_1, gt_s3_1, gt_s4_1, gt_acpy, gt_iconst, gt_iaload, gt_iret, gt_retz, bkX11_image_0, ka0_0, ra0_0_0, ra0_0_1, ka0_1, la0_1, ka0_2, la0_2, (show Int32.toNatClampNeg 3 = 3 from rfl)]
  obtain ⟨μ_1, hμ_1, h⟩ := gw_lt h
  refine ⟨rfl, 0, 0, hcc, hss, ok_X11_copy (by omega) ((hS0 1 _ rfl).1) ((hS0 1 _ rfl).2.1) ((hS0 2 _ rfl).1) ((hS0 2 _ rfl).2.1) ?_⟩
  rw [← hμ_1]
  simp only [gt_nil, true_and, eq_self, gt_aload_n, gt_rfk, gw_nth, gt_get_r, gt_get_i, gt_get_z, gt_iconst, gt_iaload, gt_iret, gt_retz, Option.toList, List.cons_append, List.nil_append, Nat.add_zero, ka0_0, ra0_0_0, ra0_0_1, ka0_1, la0_1, ka0_2, la0_2, (show Int32.toNatClampNeg 3 = 3 from rfl)]
  refine ⟨(⟨by decide, by decide⟩ : gw_in 3 20813), ?_⟩
  obtain ⟨rfl, rfl⟩ := gw_inj2 h
  exact ⟨hcc, hss, hq⟩
def F_X11_back (n0 : Nat) (a0 : Nat) (μ : gw_M) : Option (Int32 × gw_M) := gw_let (gw_cpy μ (a0 + 2) (a0 + 1) 0 0 20813) (fun (μ_1 : gw_M) => some ((μ_1 (a0 + 1) 3), μ_1))
theorem ok_X11_back {l : Launch} {x : gw_C} {d : Nat} {S : gw_S} {Q : Option Value → gw_S → gw_M → Prop} {a0 : Nat} {n0 : Nat} {μ : gw_M} {r μ'} (hS0 : gw_sh S 11 a0) (h : F_X11_back n0 a0 μ = some (r, μ')) (hq : Q (some (.int r)) S μ') : gw_ok l x (d + 2) sgX11_back 0 0 [.ref a0] S μ Q := by
  refine gw_ok_of stX11_back (lv0 := [.ref a0]) (Nat.le_of_ble_eq_true rfl) rfl rfl ?_
  intro K hK
  have hcc : 0 ≤ 0 := Nat.zero_le _
  have hss : 0 ≤ 0 := Nat.zero_le _
  have ka0_0 : gw_kd S a0 = 11 := (hS0 0 _ rfl).1
  have ra0_0_0 : gw_rf S a0 0 = a0 + 1 := (hS0 0 _ rfl).2.2 (0, 1) (by decide)
  have ra0_0_1 : gw_rf S a0 1 = a0 + 2 := (hS0 0 _ rfl).2.2 (1, 2) (by decide)
  have ka0_1 : gw_kd S (a0 + 1) = 12 := (hS0 1 _ rfl).1
  have la0_1 : gw_ln S (a0 + 1) = 20813 := (hS0 1 _ rfl).2.1
  have ka0_2 : gw_kd S (a0 + 2) = 12 := (hS0 2 _ rfl).1
  have la0_2 : gw_ln S (a0 + 2) = 20813 := (hS0 2 _ rfl).2.1
  unfold F_X11_back at h
  refine hK _ _ _ _ _ _ _ ?_
  rw [fdX11_back_0]
  simp only [gt_nil, true_and, eq_self, gt_aload_n, gt_rfk, gw_nth, gt_get_r, gt_get_i, gt_get_z, gt_s1_0, gt_s2_0, gt_s3_0, gt_s4_0, gt_s1_1, gt_s2_1, gt_s3_1, gt_s4_1, gt_acpy, gt_iconst, gt_iaload, gt_iret, gt_retz, bkX11_back_0, ka0_0, ra0_0_0, ra0_0_1, ka0_1, la0_1, ka0_2, la0_2, (show Int32.toNatClampNeg 3 = 3 from rfl)]
  obtain ⟨μ_1, hμ_1, h⟩ := gw_lt h
  refine ⟨rfl, 0, 0, hcc, hss, ok_X11_copy (by omega) ((hS0 2 _ rfl).1) ((hS0 2 _ rfl).2.1) ((hS0 1 _ rfl).1) ((hS0 1 _ rfl).2.1) ?_⟩
  rw [← hμ_1]
  simp only [gt_nil, true_and, eq_self, gt_aload_n, gt_rfk, gw_nth, gt_get_r, gt_get_i, gt_get_z, gt_iconst, gt_iaload, gt_iret, gt_retz, Option.toList, List.cons_append, List.nil_append, Nat.add_zero, ka0_0, ra0_0_0, ra0_0_1, ka0_1, la0_1, ka0_2, la0_2, (show Int32.toNatClampNeg 3 = 3 from rfl)]
  refine ⟨(⟨by decide, by decide⟩ : gw_in 3 20813), ?_⟩
  obtain ⟨rfl, rfl⟩ := gw_inj2 h
  exact ⟨hcc, hss, hq⟩
def F_X11_steps (n0 : Nat) (a0 : Nat) (μ : gw_M) : Option (Int32) := some (μ (a0 + 1) 0)
theorem ok_X11_steps {l : Launch} {x : gw_C} {d : Nat} {S : gw_S} {Q : Option Value → gw_S → gw_M → Prop} {a0 : Nat} {n0 : Nat} {μ : gw_M} {r} (hS0 : gw_sh S 11 a0) (h : F_X11_steps n0 a0 μ = some r) (hq : Q (some (.int r)) S μ) : gw_ok l x (d + 1) sgX11_steps 0 0 [.ref a0] S μ Q := by
  refine gw_ok_of stX11_steps (lv0 := [.ref a0]) (Nat.le_of_ble_eq_true rfl) rfl rfl ?_
  intro K hK
  have hcc : 0 ≤ 0 := Nat.zero_le _
  have hss : 0 ≤ 0 := Nat.zero_le _
  have ka0_0 : gw_kd S a0 = 11 := (hS0 0 _ rfl).1
  have ra0_0_0 : gw_rf S a0 0 = a0 + 1 := (hS0 0 _ rfl).2.2 (0, 1) (by decide)
  have ka0_1 : gw_kd S (a0 + 1) = 12 := (hS0 1 _ rfl).1
  have la0_1 : gw_ln S (a0 + 1) = 20813 := (hS0 1 _ rfl).2.1
  unfold F_X11_steps at h
  refine hK _ _ _ _ _ _ _ ?_
  rw [fdX11_steps_0]
  simp only [gt_nil, true_and, eq_self, gt_aload_n, gt_rfk, gw_nth, gt_get_r, gt_get_i, gt_get_z, gt_iconst, gt_iaload, gt_iret, gt_retz, bkX11_steps_0, ka0_0, ra0_0_0, ka0_1, la0_1, (show Int32.toNatClampNeg 0 = 0 from rfl)]
  refine ⟨(⟨by decide, by decide⟩ : gw_in 0 20813), ?_⟩
  obtain rfl := gw_inj1 h
  exact ⟨hcc, hss, hq⟩
