def F_X11_has (n0 : Nat) (v0 : Int32) (v1 : Int32) (μ : gw_M) : Option (Int32) := (if ¬ ((v0 >>> (v1 &&& 31)) &&& (1 : Int32)) = 1 then some 0 else some 1)
theorem ok_X11_has {l : Launch} {x : gw_C} {d : Nat} {S : gw_S} {Q : Option Value → gw_S → gw_M → Prop} {v0 v1 : Int32} {n0 : Nat} {μ : gw_M} {r} (h : F_X11_has n0 v0 v1 μ = some r) (hq : ((r = 0 ∨ r = 1) → Q (some (.int r)) S μ)) : gw_ok l x (d + 1) sgX11_has 0 0 [.int v0, .int v1] S μ Q := by
  refine gw_ok_of stX11_has (lv0 := [.int v0, .int v1]) (Nat.le_of_ble_eq_true rfl) rfl rfl ?_
  intro K hK
  have hcc : 0 ≤ 0 := Nat.zero_le _
  have hss : 0 ≤ 0 := Nat.zero_le _
  unfold F_X11_has at h
  refine hK _ _ _ _ _ _ _ ?_
  rw [fdX11_has_0]
  simp only [gt_nil, true_and, eq_self, gt_iload_n, gt_ink, gw_nth, gt_ishr, gt_iconst, gt_iand, gt_icmp, gt_goto, bkX11_has_0]
  refine ⟨fun c_1 => ?_, fun c_1 => ?_⟩
  · replace h := gw_ifp2 (gw_c2_ne _ _) h c_1
    refine hK _ _ _ _ _ _ _ ?_
    rw [fdX11_has_13]
    simp only [gt_nil, true_and, eq_self, gt_iconst, bkX11_has_13]
    refine hK _ _ _ _ _ _ _ ?_
    rw [fdX11_has_14]
    simp only [gt_nil, true_and, eq_self, gt_iret, gt_retz, bkX11_has_14]
    obtain rfl := gw_inj1 h
    exact ⟨(Or.inl rfl), hcc, hss, hq (Or.inl rfl)⟩
  · replace h := gw_ifn2 (gw_c2_ne _ _) h c_1
    refine hK _ _ _ _ _ _ _ ?_
    rw [fdX11_has_14]
    simp only [gt_nil, true_and, eq_self, gt_iret, gt_retz, bkX11_has_14]
    obtain rfl := gw_inj1 h
    exact ⟨(Or.inr rfl), hcc, hss, hq (Or.inr rfl)⟩
def F_X11_many_4 (n0 : Nat) : Nat → Int32 → Int32 → gw_M → Option (Int32)
  | 0, _, _, _ => none
  | n + 1, v1, v2, μ => (if v2 = 0 then some v1 else gw_let (v1 + 1) (fun (w_2 : Int32) => gw_let ((v2 &&& (v2 - (1 : Int32)))) (fun (w_3 : Int32) => F_X11_many_4 n0 n w_2 w_3 μ)))
def F_X11_many (n0 : Nat) (v0 : Int32) (μ : gw_M) : Option (Int32) := F_X11_many_4 n0 n0 0 v0 μ
theorem B_X11_many_4 {l : Launch} {x : gw_C} {d : Nat} {S : gw_S} {Q : Option Value → gw_S → gw_M → Prop} {K : Nat → gw_Kt} {mc ms cc ss : Nat} (hcc : cc ≤ mc) (hss : ss ≤ ms) (hK : gw_cl l x (d + 0) mc ms bsX11_many Q K) {n0 : Nat} : ∀ {n : Nat} {v1 v2} {u0 : Value} {μ : gw_M} {r}, F_X11_many_4 n0 n v1 v2 μ = some r → Q (some (.int r)) S μ → K 4 [u0, .int v1, .int v2] [] S μ cc ss := by
  intro n
  induction n with
  | zero => intro v1 v2 u0 μ r h hq; simp [F_X11_many_4] at h
  | succ n ih =>
    intro v1 v2 u0 μ r h hq
    simp only [F_X11_many_4] at h
    refine hK _ _ _ _ _ _ _ ?_
    rw [fdX11_many_4]
    simp only [gt_nil, true_and, eq_self, gt_iload_n, gt_ink, gw_nth, gt_if, gt_iinc, gw_set, gt_iconst, gt_isub, gt_iand, gt_istore_n, gt_goto, bkX11_many_4]
    refine ⟨fun c_1 => ?_, fun c_1 => ?_⟩
    · replace h := gw_ifp h c_1
      refine hK _ _ _ _ _ _ _ ?_
      rw [fdX11_many_20]
      simp only [gt_nil, true_and, eq_self, gt_iload_n, gt_ink, gw_nth, gt_iret, gt_retz, bkX11_many_20]
      obtain rfl := gw_inj1 h
      exact ⟨hcc, hss, hq⟩
    · replace h := gw_ifn h c_1
      obtain ⟨w_2, hw_2, h⟩ := gw_lt h
      try rw [← hw_2]
      obtain ⟨w_3, hw_3, h⟩ := gw_lt h
      try rw [← hw_3]
      exact ih h hq
theorem ok_X11_many {l : Launch} {x : gw_C} {d : Nat} {S : gw_S} {Q : Option Value → gw_S → gw_M → Prop} {v0 : Int32} {n0 : Nat} {μ : gw_M} {r} (h : F_X11_many n0 v0 μ = some r) (hq : Q (some (.int r)) S μ) : gw_ok l x (d + 1) sgX11_many 0 0 [.int v0] S μ Q := by
  refine gw_ok_of stX11_many (lv0 := [.int v0, .retAddr 0, .retAddr 0]) (Nat.le_of_ble_eq_true rfl) rfl rfl ?_
  intro K hK
  have hcc : 0 ≤ 0 := Nat.zero_le _
  have hss : 0 ≤ 0 := Nat.zero_le _
  unfold F_X11_many at h
  refine hK _ _ _ _ _ _ _ ?_
  rw [fdX11_many_0]
  simp only [gt_nil, true_and, eq_self, gt_iconst, gt_istore_n, gw_set, gt_iload_n, gt_ink, gw_nth, bkX11_many_0]
  exact B_X11_many_4 hcc hss hK h hq
def F_X11_greatest_3 (n0 : Nat) : Nat → Int32 → Int32 → gw_M → Option (Int32)
  | 0, _, _, _ => none
  | n + 1, v0, v1, μ => (if v1 < 0 then some v1 else (F_X11_has n0 v0 v1 μ).bind (fun (r_2 : Int32) => (if ¬ r_2 = 0 then some v1 else gw_let (v1 + (-1)) (fun (w_7 : Int32) => F_X11_greatest_3 n0 n v0 w_7 μ))))
def F_X11_greatest (n0 : Nat) (v0 : Int32) (μ : gw_M) : Option (Int32) := F_X11_greatest_3 n0 n0 v0 15 μ
theorem B_X11_greatest_3 {l : Launch} {x : gw_C} {d : Nat} {S : gw_S} {Q : Option Value → gw_S → gw_M → Prop} {K : Nat → gw_Kt} {mc ms cc ss : Nat} (hcc : cc ≤ mc) (hss : ss ≤ ms) (hK : gw_cl l x (d + 1) mc ms bsX11_greatest Q K) {n0 : Nat} : ∀ {n : Nat} {v0 v1} {μ : gw_M} {r}, F_X11_greatest_3 n0 n v0 v1 μ = some r → Q (some (.int r)) S μ → K 3 [.int v0, .int v1] [] S μ cc ss := by
  intro n
  induction n with
  | zero => intro v0 v1 μ r h hq; simp [F_X11_greatest_3] at h
  | succ n ih =>
    intro v0 v1 μ r h hq
    simp only [F_X11_greatest_3] at h
    refine hK _ _ _ _ _ _ _ ?_
    rw [fdX11_greatest_3]
    simp only [gt_nil, true_and, eq_self, gt_iload_n, gt_ink, gw_nth, gt_if, gt_s1_0, gt_s2_0, gt_s3_0, gt_s4_0, gt_s1_1, gt_s2_1, gt_s3_1, gt_s4_1, gt_acpy, gt_iinc, gw_set, gt_goto, bkX11_greatest_3]
    refine ⟨fun c_1 => ?_, fun c_1 => ?_⟩
    · replace h := gw_ifp h c_1
      refine hK _ _ _ _ _ _ _ ?_
      rw [fdX11_greatest_21]
      simp only [gt_nil, true_and, eq_self, gt_iload_n, gt_ink, gw_nth, gt_iret, gt_retz, bkX11_greatest_21]
      obtain rfl := gw_inj1 h
      exact ⟨hcc, hss, hq⟩
    · replace h := gw_ifn h c_1
      obtain ⟨r_2, e_4, h⟩ := gw_bnd h
      refine ⟨rfl, 0, 0, hcc, hss, ok_X11_has e_4 ?_⟩
      intro hbr_2
      simp only [gt_nil, true_and, eq_self, gt_if, gt_iinc, gt_ink, gw_nth, gw_set, gt_goto, Option.toList, List.cons_append, List.nil_append, Nat.add_zero]
      refine ⟨fun c_6 => ?_, fun c_6 => ?_⟩
      · replace h := gw_ifp h c_6
        refine hK _ _ _ _ _ _ _ ?_
        rw [fdX11_greatest_21]
        simp only [gt_nil, true_and, eq_self, gt_iload_n, gt_ink, gw_nth, gt_iret, gt_retz, bkX11_greatest_21]
        obtain rfl := gw_inj1 h
        exact ⟨hcc, hss, hq⟩
      · replace h := gw_ifn h c_6
        obtain ⟨w_7, hw_7, h⟩ := gw_lt h
        try rw [← hw_7]
        exact ih h hq
theorem ok_X11_greatest {l : Launch} {x : gw_C} {d : Nat} {S : gw_S} {Q : Option Value → gw_S → gw_M → Prop} {v0 : Int32} {n0 : Nat} {μ : gw_M} {r} (h : F_X11_greatest n0 v0 μ = some r) (hq : Q (some (.int r)) S μ) : gw_ok l x (d + 2) sgX11_greatest 0 0 [.int v0] S μ Q := by
  refine gw_ok_of stX11_greatest (lv0 := [.int v0, .retAddr 0]) (Nat.le_of_ble_eq_true rfl) rfl rfl ?_
  intro K hK
  have hcc : 0 ≤ 0 := Nat.zero_le _
  have hss : 0 ≤ 0 := Nat.zero_le _
  unfold F_X11_greatest at h
  refine hK _ _ _ _ _ _ _ ?_
  rw [fdX11_greatest_0]
  simp only [gt_nil, true_and, eq_self, gt_bipush, gt_istore_n, gw_set, bkX11_greatest_0]
  exact B_X11_greatest_3 hcc hss hK h hq
def F_X11_isPage (n0 : Nat) (v0 : Int32) (μ : gw_M) : Option (Int32) := (F_X11_isIn n0 v0 0 15 μ).bind (fun (r_1 : Int32) => some r_1)
theorem ok_X11_isPage {l : Launch} {x : gw_C} {d : Nat} {S : gw_S} {Q : Option Value → gw_S → gw_M → Prop} {v0 : Int32} {n0 : Nat} {μ : gw_M} {r} (h : F_X11_isPage n0 v0 μ = some r) (hq : ((r = 0 ∨ r = 1) → Q (some (.int r)) S μ)) : gw_ok l x (d + 2) sgX11_isPage 0 0 [.int v0] S μ Q := by
  refine gw_ok_of stX11_isPage (lv0 := [.int v0]) (Nat.le_of_ble_eq_true rfl) rfl rfl ?_
  intro K hK
  have hcc : 0 ≤ 0 := Nat.zero_le _
  have hss : 0 ≤ 0 := Nat.zero_le _
  unfold F_X11_isPage at h
  refine hK _ _ _ _ _ _ _ ?_
  rw [fdX11_isPage_0]
  simp only [gt_nil, true_and, eq_self, gt_iload_n, gt_ink, gw_nth, gt_iconst, gt_bipush, gt_s1_0, gt_s2_0, gt_s3_0, gt_s4_0, gt_s1_1, gt_s2_1, gt_s3_1, gt_s4_1, gt_acpy, gt_iret, gt_retz, bkX11_isPage_0]
  obtain ⟨r_1, e_3, h⟩ := gw_bnd h
  refine ⟨rfl, 0, 0, hcc, hss, ok_X11_isIn e_3 ?_⟩
  intro hbr_1
  simp only [gt_nil, true_and, eq_self, gt_iret, gt_retz, Option.toList, List.cons_append, List.nil_append, Nat.add_zero]
  obtain rfl := gw_inj1 h
  exact ⟨hbr_1, hcc, hss, hq hbr_1⟩
def F_X11_isGuest (n0 : Nat) (v0 : Int32) (μ : gw_M) : Option (Int32) := (F_X11_isIn n0 v0 1 2 μ).bind (fun (r_1 : Int32) => some r_1)
theorem ok_X11_isGuest {l : Launch} {x : gw_C} {d : Nat} {S : gw_S} {Q : Option Value → gw_S → gw_M → Prop} {v0 : Int32} {n0 : Nat} {μ : gw_M} {r} (h : F_X11_isGuest n0 v0 μ = some r) (hq : ((r = 0 ∨ r = 1) → Q (some (.int r)) S μ)) : gw_ok l x (d + 2) sgX11_isGuest 0 0 [.int v0] S μ Q := by
  refine gw_ok_of stX11_isGuest (lv0 := [.int v0]) (Nat.le_of_ble_eq_true rfl) rfl rfl ?_
  intro K hK
  have hcc : 0 ≤ 0 := Nat.zero_le _
  have hss : 0 ≤ 0 := Nat.zero_le _
  unfold F_X11_isGuest at h
  refine hK _ _ _ _ _ _ _ ?_
  rw [fdX11_isGuest_0]
  simp only [gt_nil, true_and, eq_self, gt_iload_n, gt_ink, gw_nth, gt_iconst, gt_s1_0, gt_s2_0, gt_s3_0, gt_s4_0, gt_s1_1, gt_s2_1, gt_s3_1, gt_s4_1, gt_acpy, gt_iret, gt_retz, bkX11_isGuest_0]
  obtain ⟨r_1, e_3, h⟩ := gw_bnd h
  refine ⟨rfl, 0, 0, hcc, hss, ok_X11_isIn e_3 ?_⟩
  intro hbr_1
  simp only [gt_nil, true_and, eq_self, gt_iret, gt_retz, Option.toList, List.cons_append, List.nil_append, Nat.add_zero]
  obtain rfl := gw_inj1 h
  exact ⟨hbr_1, hcc, hss, hq hbr_1⟩
def F_X11_guestAt (n0 : Nat) (a0 : Nat) (v1 : Int32) (μ : gw_M) : Option (Int32) := (if ¬ v1 = 1 then some ((58 : Int32) + ((162 : Int32) * ((1 : Int32) + (μ (a0 + 1) 15)))) else some 58)
theorem ok_X11_guestAt {l : Launch} {x : gw_C} {d : Nat} {S : gw_S} {Q : Option Value → gw_S → gw_M → Prop} {v1 : Int32} {a0 : Nat} {n0 : Nat} {μ : gw_M} {r} (hS0 : gw_sh S 11 a0) (h : F_X11_guestAt n0 a0 v1 μ = some r) (hq : Q (some (.int r)) S μ) : gw_ok l x (d + 1) sgX11_guestAt 0 0 [.ref a0, .int v1] S μ Q := by
  refine gw_ok_of stX11_guestAt (lv0 := [.ref a0, .int v1]) (Nat.le_of_ble_eq_true rfl) rfl rfl ?_
  intro K hK
  have hcc : 0 ≤ 0 := Nat.zero_le _
  have hss : 0 ≤ 0 := Nat.zero_le _
  have ka0_0 : gw_kd S a0 = 11 := (hS0 0 _ rfl).1
  have ra0_0_0 : gw_rf S a0 0 = a0 + 1 := (hS0 0 _ rfl).2.2 (0, 1) (by decide)
  have ka0_1 : gw_kd S (a0 + 1) = 12 := (hS0 1 _ rfl).1
  have la0_1 : gw_ln S (a0 + 1) = 20813 := (hS0 1 _ rfl).2.1
  unfold F_X11_guestAt at h
  refine hK _ _ _ _ _ _ _ ?_
  rw [fdX11_guestAt_0]
  simp only [gt_nil, true_and, eq_self, gt_iload_n, gt_ink, gw_nth, gt_iconst, gt_icmp, gt_bipush, gt_goto, bkX11_guestAt_0, ka0_0, ra0_0_0, ka0_1, la0_1, (show Int32.toNatClampNeg 15 = 15 from rfl)]
  refine ⟨fun c_1 => ?_, fun c_1 => ?_⟩
  · replace h := gw_ifp2 (gw_c2_ne _ _) h c_1
    refine hK _ _ _ _ _ _ _ ?_
    rw [fdX11_guestAt_10]
    simp only [gt_nil, true_and, eq_self, gt_bipush, gt_sipush, gt_iconst, gt_aload_n, gt_rfk, gw_nth, gt_get_r, gt_get_i, gt_get_z, gt_iaload, gt_iadd, gt_imul, bkX11_guestAt_10, ka0_0, ra0_0_0, ka0_1, la0_1, (show Int32.toNatClampNeg 15 = 15 from rfl)]
    refine ⟨(⟨by decide, by decide⟩ : gw_in 15 20813), ?_⟩
    refine hK _ _ _ _ _ _ _ ?_
    rw [fdX11_guestAt_26]
    simp only [gt_nil, true_and, eq_self, gt_iret, gt_retz, bkX11_guestAt_26, ka0_0, ra0_0_0, ka0_1, la0_1, (show Int32.toNatClampNeg 15 = 15 from rfl)]
    obtain rfl := gw_inj1 h
    exact ⟨hcc, hss, hq⟩
  · replace h := gw_ifn2 (gw_c2_ne _ _) h c_1
    refine hK _ _ _ _ _ _ _ ?_
    rw [fdX11_guestAt_26]
    simp only [gt_nil, true_and, eq_self, gt_iret, gt_retz, bkX11_guestAt_26, ka0_0, ra0_0_0, ka0_1, la0_1, (show Int32.toNatClampNeg 15 = 15 from rfl)]
    obtain rfl := gw_inj1 h
    exact ⟨hcc, hss, hq⟩
def F_X11_entryAt (n0 : Nat) (a0 : Nat) (v1 : Int32) (v2 : Int32) (μ : gw_M) : Option (Int32) := (if ¬ v1 = 3 then (if ¬ v1 = 2 then (F_X11_guestAt n0 a0 2 μ).bind (fun (r_3 : Int32) => some (((r_3 + (79 : Int32)) + ((32 : Int32) * v1)) + ((2 : Int32) * v2))) else some ((706 : Int32) + ((2 : Int32) * v2))) else some ((754 : Int32) + ((2 : Int32) * v2)))
theorem ok_X11_entryAt {l : Launch} {x : gw_C} {d : Nat} {S : gw_S} {Q : Option Value → gw_S → gw_M → Prop} {v1 v2 : Int32} {a0 : Nat} {n0 : Nat} {μ : gw_M} {r} (hS0 : gw_sh S 11 a0) (h : F_X11_entryAt n0 a0 v1 v2 μ = some r) (hq : Q (some (.int r)) S μ) : gw_ok l x (d + 2) sgX11_entryAt 0 0 [.ref a0, .int v1, .int v2] S μ Q := by
  refine gw_ok_of stX11_entryAt (lv0 := [.ref a0, .int v1, .int v2]) (Nat.le_of_ble_eq_true rfl) rfl rfl ?_
  intro K hK
  have hcc : 0 ≤ 0 := Nat.zero_le _
  have hss : 0 ≤ 0 := Nat.zero_le _
  have ka0_0 : gw_kd S a0 = 11 := (hS0 0 _ rfl).1
  unfold F_X11_entryAt at h
  refine hK _ _ _ _ _ _ _ ?_
  rw [fdX11_entryAt_0]
  simp only [gt_nil, true_and, eq_self, gt_iload_n, gt_ink, gw_nth, gt_iconst, gt_icmp, gt_sipush, gt_imul, gt_iadd, gt_goto, bkX11_entryAt_0, ka0_0]
  refine ⟨fun c_1 => ?_, fun c_1 => ?_⟩
  · replace h := gw_ifp2 (gw_c2_ne _ _) h c_1
    refine hK _ _ _ _ _ _ _ ?_
    rw [fdX11_entryAt_15]
    simp only [gt_nil, true_and, eq_self, gt_iload_n, gt_ink, gw_nth, gt_iconst, gt_icmp, gt_sipush, gt_imul, gt_iadd, gt_goto, bkX11_entryAt_15, ka0_0]
    refine ⟨fun c_2 => ?_, fun c_2 => ?_⟩
    · replace h := gw_ifp2 (gw_c2_ne _ _) h c_2
      refine hK _ _ _ _ _ _ _ ?_
      rw [fdX11_entryAt_30]
      simp only [gt_nil, true_and, eq_self, gt_aload_n, gt_rfk, gw_nth, gt_iconst, gt_v0, gt_v1, gt_v2, gt_v3, gt_v4, gt_v5, gt_bipush, gt_iadd, gt_iload_n, gt_ink, gt_imul, bkX11_entryAt_30, ka0_0]
      obtain ⟨r_3, e_5, h⟩ := gw_bnd h
      refine ⟨rfl, 0, 0, hcc, hss, ok_X11_guestAt hS0 e_5 ?_⟩
      simp only [gt_nil, true_and, eq_self, gt_bipush, gt_iadd, gt_iload_n, gt_ink, gw_nth, gt_imul, gt_iconst, Option.toList, List.cons_append, List.nil_append, Nat.add_zero, ka0_0]
      refine hK _ _ _ _ _ _ _ ?_
      rw [fdX11_entryAt_47]
      simp only [gt_nil, true_and, eq_self, gt_iret, gt_retz, bkX11_entryAt_47, ka0_0]
      obtain rfl := gw_inj1 h
      exact ⟨hcc, hss, hq⟩
    · replace h := gw_ifn2 (gw_c2_ne _ _) h c_2
      refine hK _ _ _ _ _ _ _ ?_
      rw [fdX11_entryAt_47]
      simp only [gt_nil, true_and, eq_self, gt_iret, gt_retz, bkX11_entryAt_47, ka0_0]
      obtain rfl := gw_inj1 h
      exact ⟨hcc, hss, hq⟩
  · replace h := gw_ifn2 (gw_c2_ne _ _) h c_1
    refine hK _ _ _ _ _ _ _ ?_
    rw [fdX11_entryAt_47]
    simp only [gt_nil, true_and, eq_self, gt_iret, gt_retz, bkX11_entryAt_47, ka0_0]
    obtain rfl := gw_inj1 h
    exact ⟨hcc, hss, hq⟩
def F_X11_toOf (n0 : Nat) (a0 : Nat) (v1 : Int32) (v2 : Int32) (μ : gw_M) : Option (Int32) := (F_X11_entryAt n0 a0 v1 v2 μ).bind (fun (r_1 : Int32) => (if 0 ≤ r_1 ∧ r_1.toNatClampNeg < 20813 then some (μ (a0 + 1) r_1.toNatClampNeg) else none))
theorem ok_X11_toOf {l : Launch} {x : gw_C} {d : Nat} {S : gw_S} {Q : Option Value → gw_S → gw_M → Prop} {v1 v2 : Int32} {a0 : Nat} {n0 : Nat} {μ : gw_M} {r} (hS0 : gw_sh S 11 a0) (h : F_X11_toOf n0 a0 v1 v2 μ = some r) (hq : Q (some (.int r)) S μ) : gw_ok l x (d + 3) sgX11_toOf 0 0 [.ref a0, .int v1, .int v2] S μ Q := by
  refine gw_ok_of stX11_toOf (lv0 := [.ref a0, .int v1, .int v2]) (Nat.le_of_ble_eq_true rfl) rfl rfl ?_
  intro K hK
  have hcc : 0 ≤ 0 := Nat.zero_le _
  have hss : 0 ≤ 0 := Nat.zero_le _
  have ka0_0 : gw_kd S a0 = 11 := (hS0 0 _ rfl).1
  have ra0_0_0 : gw_rf S a0 0 = a0 + 1 := (hS0 0 _ rfl).2.2 (0, 1) (by decide)
  have ka0_1 : gw_kd S (a0 + 1) = 12 := (hS0 1 _ rfl).1
  have la0_1 : gw_ln S (a0 + 1) = 20813 := (hS0 1 _ rfl).2.1
  unfold F_X11_toOf at h
  refine hK _ _ _ _ _ _ _ ?_
  rw [fdX11_toOf_0]
  simp only [gt_nil, true_and, eq_self, gt_aload_n, gt_rfk, gw_nth, gt_get_r, gt_get_i, gt_get_z, gt_iload_n, gt_ink, gt_v0, gt_v1, gt_v2, gt_v3, gt_v4, gt_v5, gt_iaload, gt_iret, gt_retz, bkX11_toOf_0, ka0_0, ra0_0_0, ka0_1, la0_1]
  obtain ⟨r_1, e_3, h⟩ := gw_bnd h
  refine ⟨rfl, 0, 0, hcc, hss, ok_X11_entryAt hS0 e_3 ?_⟩
  simp only [gt_nil, true_and, eq_self, gt_iaload, gt_iret, gt_retz, Option.toList, List.cons_append, List.nil_append, Nat.add_zero, ka0_0, ra0_0_0, ka0_1, la0_1]
  obtain ⟨c_5, h⟩ := gw_ife h
  refine ⟨c_5, ?_⟩
  obtain rfl := gw_inj1 h
  exact ⟨hcc, hss, hq⟩
def F_X11_isCopied (n0 : Nat) (a0 : Nat) (v1 : Int32) (μ : gw_M) : Option (Int32) := (F_X11_has n0 (μ (a0 + 1) 27) v1 μ).bind (fun (r_1 : Int32) => some r_1)
theorem ok_X11_isCopied {l : Launch} {x : gw_C} {d : Nat} {S : gw_S} {Q : Option Value → gw_S → gw_M → Prop} {v1 : Int32} {a0 : Nat} {n0 : Nat} {μ : gw_M} {r} (hS0 : gw_sh S 11 a0) (h : F_X11_isCopied n0 a0 v1 μ = some r) (hq : ((r = 0 ∨ r = 1) → Q (some (.int r)) S μ)) : gw_ok l x (d + 2) sgX11_isCopied 0 0 [.ref a0, .int v1] S μ Q := by
  refine gw_ok_of stX11_isCopied (lv0 := [.ref a0, .int v1]) (Nat.le_of_ble_eq_true rfl) rfl rfl ?_
  intro K hK
  have hcc : 0 ≤ 0 := Nat.zero_le _
  have hss : 0 ≤ 0 := Nat.zero_le _
  have ka0_0 : gw_kd S a0 = 11 := (hS0 0 _ rfl).1
  have ra0_0_0 : gw_rf S a0 0 = a0 + 1 := (hS0 0 _ rfl).2.2 (0, 1) (by decide)
  have ka0_1 : gw_kd S (a0 + 1) = 12 := (hS0 1 _ rfl).1
  have la0_1 : gw_ln S (a0 + 1) = 20813 := (hS0 1 _ rfl).2.1
  unfold F_X11_isCopied at h
  refine hK _ _ _ _ _ _ _ ?_
  rw [fdX11_isCopied_0]
  simp only [gt_nil, true_and, eq_self, gt_aload_n, gt_rfk, gw_nth, gt_get_r, gt_get_i, gt_get_z, gt_bipush, gt_iaload, gt_iload_n, gt_ink, gt_s1_0, gt_s2_0, gt_s3_0, gt_s4_0, gt_s1_1, gt_s2_1, gt_s3_1, gt_s4_1, gt_acpy, gt_iret, gt_retz, bkX11_isCopied_0, ka0_0, ra0_0_0, ka0_1, la0_1, (show Int32.toNatClampNeg 27 = 27 from rfl)]
  refine ⟨(⟨by decide, by decide⟩ : gw_in 27 20813), ?_⟩
  obtain ⟨r_1, e_3, h⟩ := gw_bnd h
  refine ⟨rfl, 0, 0, hcc, hss, ok_X11_has e_3 ?_⟩
  intro hbr_1
  simp only [gt_nil, true_and, eq_self, gt_iret, gt_retz, Option.toList, List.cons_append, List.nil_append, Nat.add_zero, ka0_0, ra0_0_0, ka0_1, la0_1, (show Int32.toNatClampNeg 27 = 27 from rfl)]
  obtain rfl := gw_inj1 h
  exact ⟨hbr_1, hcc, hss, hq hbr_1⟩
def F_X11_rightsOf_51 (n0 : Nat) (a0 : Nat) (v3 : Int32) (μ : gw_M) : Option (Int32) := some v3
def F_X11_rightsOf (n0 : Nat) (a0 : Nat) (v1 : Int32) (v2 : Int32) (μ : gw_M) : Option (Int32) := (F_X11_entryAt n0 a0 v1 v2 μ).bind (fun (r_1 : Int32) => (if 0 ≤ r_1 ∧ r_1.toNatClampNeg < 20813 then (if ¬ (μ (a0 + 1) r_1.toNatClampNeg) = (-1) then (F_X11_entryAt n0 a0 v1 v2 μ).bind (fun (r_7 : Int32) => (if 0 ≤ (r_7 + (1 : Int32)) ∧ (r_7 + (1 : Int32)).toNatClampNeg < 20813 then gw_let ((μ (a0 + 1) (r_7 + (1 : Int32)).toNatClampNeg)) (fun (w_12 : Int32) => (if ¬ v1 = 2 then F_X11_rightsOf_51 n0 a0 w_12 μ else (F_X11_isCopied n0 a0 v2 μ).bind (fun (r_14 : Int32) => (if r_14 = 0 then F_X11_rightsOf_51 n0 a0 w_12 μ else some (w_12 &&& ((-3) : Int32)))))) else none)) else some 0) else none))
theorem B_X11_rightsOf_51 {l : Launch} {x : gw_C} {d : Nat} {S : gw_S} {Q : Option Value → gw_S → gw_M → Prop} {K : Nat → gw_Kt} {mc ms cc ss : Nat} (hcc : cc ≤ mc) (hss : ss ≤ ms) (hK : gw_cl l x (d + 2) mc ms bsX11_rightsOf Q K) {a0 : Nat} (hS0 : gw_sh S 11 a0) {n0 : Nat} {v3} {u1 u2 : Value} {μ : gw_M} {r} (h : F_X11_rightsOf_51 n0 a0 v3 μ = some r) (hq : Q (some (.int r)) S μ) : K 51 [.ref a0, u1, u2, .int v3] [] S μ cc ss := by
  unfold F_X11_rightsOf_51 at h
  refine hK _ _ _ _ _ _ _ ?_
  rw [fdX11_rightsOf_51]
  simp only [gt_nil, true_and, eq_self, gt_iload_n, gt_ink, gw_nth, bkX11_rightsOf_51]
  refine hK _ _ _ _ _ _ _ ?_
  rw [fdX11_rightsOf_52]
  simp only [gt_nil, true_and, eq_self, gt_iret, gt_retz, bkX11_rightsOf_52]
  obtain rfl := gw_inj1 h
  exact ⟨hcc, hss, hq⟩
theorem ok_X11_rightsOf {l : Launch} {x : gw_C} {d : Nat} {S : gw_S} {Q : Option Value → gw_S → gw_M → Prop} {v1 v2 : Int32} {a0 : Nat} {n0 : Nat} {μ : gw_M} {r} (hS0 : gw_sh S 11 a0) (h : F_X11_rightsOf n0 a0 v1 v2 μ = some r) (hq : Q (some (.int r)) S μ) : gw_ok l x (d + 3) sgX11_rightsOf 0 0 [.ref a0, .int v1, .int v2] S μ Q := by
  refine gw_ok_of stX11_rightsOf (lv0 := [.ref a0, .int v1, .int v2, .retAddr 0]) (Nat.le_of_ble_eq_true rfl) rfl rfl ?_
  intro K hK
  have hcc : 0 ≤ 0 := Nat.zero_le _
  have hss : 0 ≤ 0 := Nat.zero_le _
  have ka0_0 : gw_kd S a0 = 11 := (hS0 0 _ rfl).1
  have ra0_0_0 : gw_rf S a0 0 = a0 + 1 := (hS0 0 _ rfl).2.2 (0, 1) (by decide)
  have ka0_1 : gw_kd S (a0 + 1) = 12 := (hS0 1 _ rfl).1
  have la0_1 : gw_ln S (a0 + 1) = 20813 := (hS0 1 _ rfl).2.1
  unfold F_X11_rightsOf at h
  refine hK _ _ _ _ _ _ _ ?_
  rw [fdX11_rightsOf_0]
  simp only [gt_nil, true_and, eq_self, gt_aload_n, gt_rfk, gw_nth, gt_get_r, gt_get_i, gt_get_z, gt_iload_n, gt_ink, gt_v0, gt_v1, gt_v2, gt_v3, gt_v4, gt_v5, gt_iaload, gt_iconst, gt_icmp, gt_iret, gt_retz, bkX11_rightsOf_0, ka0_0, ra0_0_0, ka0_1, la0_1]
  obtain ⟨r_1, e_3, h⟩ := gw_bnd h
  refine ⟨rfl, 0, 0, hcc, hss, ok_X11_entryAt hS0 e_3 ?_⟩
  simp only [gt_nil, true_and, eq_self, gt_iaload, gt_iconst, gt_icmp, gt_iret, gt_retz, Option.toList, List.cons_append, List.nil_append, Nat.add_zero, ka0_0, ra0_0_0, ka0_1, la0_1]
  obtain ⟨c_5, h⟩ := gw_ife h
  refine ⟨c_5, ?_⟩
  refine ⟨fun c_6 => ?_, fun c_6 => ?_⟩
  · replace h := gw_ifp2 (gw_c2_ne _ _) h c_6
    refine hK _ _ _ _ _ _ _ ?_
    rw [fdX11_rightsOf_17]
    simp only [gt_nil, true_and, eq_self, gt_aload_n, gt_rfk, gw_nth, gt_get_r, gt_get_i, gt_get_z, gt_iload_n, gt_ink, gt_v0, gt_v1, gt_v2, gt_v3, gt_v4, gt_v5, gt_iconst, gt_iadd, gt_iaload, gt_istore_n, gw_set, gt_icmp, gt_if, gt_bipush, gt_iand, gt_goto, bkX11_rightsOf_17, ka0_0, ra0_0_0, ka0_1, la0_1]
    obtain ⟨r_7, e_9, h⟩ := gw_bnd h
    refine ⟨rfl, 0, 0, hcc, hss, ok_X11_entryAt hS0 e_9 ?_⟩
    simp only [gt_nil, true_and, eq_self, gt_iconst, gt_iadd, gt_iaload, gt_istore_n, gw_set, gt_iload_n, gt_ink, gw_nth, gt_icmp, gt_aload_n, gt_rfk, gt_v0, gt_v1, gt_v2, gt_v3, gt_v4, gt_v5, gt_if, gt_bipush, gt_iand, gt_goto, Option.toList, List.cons_append, List.nil_append, Nat.add_zero, ka0_0, ra0_0_0, ka0_1, la0_1]
    obtain ⟨c_11, h⟩ := gw_ife h
    refine ⟨c_11, ?_⟩
    obtain ⟨w_12, hw_12, h⟩ := gw_lt h
    try rw [← hw_12]
    refine ⟨fun c_13 => ?_, fun c_13 => ?_⟩
    · replace h := gw_ifp2 (gw_c2_ne _ _) h c_13
      exact B_X11_rightsOf_51 hcc hss hK hS0 h hq
    · replace h := gw_ifn2 (gw_c2_ne _ _) h c_13
      obtain ⟨r_14, e_16, h⟩ := gw_bnd h
      refine ⟨rfl, 0, 0, hcc, hss, ok_X11_isCopied hS0 e_16 ?_⟩
      intro hbr_14
      simp only [gt_nil, true_and, eq_self, gt_if, gt_iload_n, gt_ink, gw_nth, gt_bipush, gt_iand, gt_goto, Option.toList, List.cons_append, List.nil_append, Nat.add_zero, ka0_0, ra0_0_0, ka0_1, la0_1]
      refine ⟨fun c_18 => ?_, fun c_18 => ?_⟩
      · replace h := gw_ifp h c_18
        exact B_X11_rightsOf_51 hcc hss hK hS0 h hq
      · replace h := gw_ifn h c_18
        refine hK _ _ _ _ _ _ _ ?_
        rw [fdX11_rightsOf_52]
        simp only [gt_nil, true_and, eq_self, gt_iret, gt_retz, bkX11_rightsOf_52, ka0_0, ra0_0_0, ka0_1, la0_1]
        obtain rfl := gw_inj1 h
        exact ⟨hcc, hss, hq⟩
  · replace h := gw_ifn2 (gw_c2_ne _ _) h c_6
    obtain rfl := gw_inj1 h
    exact ⟨hcc, hss, hq⟩
def F_X11_gives (n0 : Nat) (a0 : Nat) (v1 : Int32) (v2 : Int32) (v3 : Int32) (μ : gw_M) : Option (Int32) := (F_X11_rightsOf n0 a0 v1 v2 μ).bind (fun (r_1 : Int32) => (F_X11_has n0 r_1 v3 μ).bind (fun (r_5 : Int32) => some r_5))
theorem ok_X11_gives {l : Launch} {x : gw_C} {d : Nat} {S : gw_S} {Q : Option Value → gw_S → gw_M → Prop} {v1 v2 v3 : Int32} {a0 : Nat} {n0 : Nat} {μ : gw_M} {r} (hS0 : gw_sh S 11 a0) (h : F_X11_gives n0 a0 v1 v2 v3 μ = some r) (hq : ((r = 0 ∨ r = 1) → Q (some (.int r)) S μ)) : gw_ok l x (d + 4) sgX11_gives 0 0 [.ref a0, .int v1, .int v2, .int v3] S μ Q := by
  refine gw_ok_of stX11_gives (lv0 := [.ref a0, .int v1, .int v2, .int v3]) (Nat.le_of_ble_eq_true rfl) rfl rfl ?_
  intro K hK
  have hcc : 0 ≤ 0 := Nat.zero_le _
  have hss : 0 ≤ 0 := Nat.zero_le _
  have ka0_0 : gw_kd S a0 = 11 := (hS0 0 _ rfl).1
  unfold F_X11_gives at h
  refine hK _ _ _ _ _ _ _ ?_
  rw [fdX11_gives_0]
  simp only [gt_nil, true_and, eq_self, gt_aload_n, gt_rfk, gw_nth, gt_iload_n, gt_ink, gt_v0, gt_v1, gt_v2, gt_v3, gt_v4, gt_v5, gt_s1_0, gt_s2_0, gt_s3_0, gt_s4_0, gt_s1_1, gt_s2_1, gt_s3_1, gt_s4_1, gt_acpy, gt_iret, gt_retz, bkX11_gives_0, ka0_0]
  obtain ⟨r_1, e_3, h⟩ := gw_bnd h
  refine ⟨rfl, 0, 0, hcc, hss, ok_X11_rightsOf hS0 e_3 ?_⟩
  simp only [gt_nil, true_and, eq_self, gt_iload_n, gt_ink, gw_nth, gt_s1_0, gt_s2_0, gt_s3_0, gt_s4_0, gt_s1_1, gt_s2_1, gt_s3_1, gt_s4_1, gt_acpy, gt_iret, gt_retz, Option.toList, List.cons_append, List.nil_append, Nat.add_zero, ka0_0]
  obtain ⟨r_5, e_7, h⟩ := gw_bnd h
  refine ⟨rfl, 0, 0, hcc, hss, ok_X11_has e_7 ?_⟩
  intro hbr_5
  simp only [gt_nil, true_and, eq_self, gt_iret, gt_retz, Option.toList, List.cons_append, List.nil_append, Nat.add_zero, ka0_0]
  obtain rfl := gw_inj1 h
  exact ⟨hbr_5, hcc, hss, hq hbr_5⟩
def F_X11_comeLast (n0 : Nat) (a0 : Nat) (v1 : Int32) (v2 : Int32) (v3 : Int32) (μ : gw_M) : Option (gw_M) := (if 0 ≤ v2 ∧ v2.toNatClampNeg < 20813 then (if 0 ≤ (v1 + (μ (a0 + 1) v2.toNatClampNeg)) ∧ (v1 + (μ (a0 + 1) v2.toNatClampNeg)).toNatClampNeg < 20813 then gw_let (gw_up μ (a0 + 1) (v1 + (μ (a0 + 1) v2.toNatClampNeg)).toNatClampNeg v3) (fun (μ_3 : gw_M) => (if 0 ≤ v2 ∧ v2.toNatClampNeg < 20813 then (if 0 ≤ v2 ∧ v2.toNatClampNeg < 20813 then gw_let (gw_up μ_3 (a0 + 1) v2.toNatClampNeg ((μ_3 (a0 + 1) v2.toNatClampNeg) + (1 : Int32))) (fun (μ_6 : gw_M) => some μ_6) else none) else none)) else none) else none)
theorem ok_X11_comeLast {l : Launch} {x : gw_C} {d : Nat} {S : gw_S} {Q : Option Value → gw_S → gw_M → Prop} {v1 v2 v3 : Int32} {a0 : Nat} {n0 : Nat} {μ : gw_M} {μ'} (hS0 : gw_sh S 11 a0) (h : F_X11_comeLast n0 a0 v1 v2 v3 μ = some μ') (hq : Q none S μ') : gw_ok l x (d + 1) sgX11_comeLast 0 0 [.ref a0, .int v1, .int v2, .int v3] S μ Q := by
  refine gw_ok_of stX11_comeLast (lv0 := [.ref a0, .int v1, .int v2, .int v3]) (Nat.le_of_ble_eq_true rfl) rfl rfl ?_
  intro K hK
  have hcc : 0 ≤ 0 := Nat.zero_le _
  have hss : 0 ≤ 0 := Nat.zero_le _
  have ka0_0 : gw_kd S a0 = 11 := (hS0 0 _ rfl).1
  have ra0_0_0 : gw_rf S a0 0 = a0 + 1 := (hS0 0 _ rfl).2.2 (0, 1) (by decide)
  have ka0_1 : gw_kd S (a0 + 1) = 12 := (hS0 1 _ rfl).1
  have la0_1 : gw_ln S (a0 + 1) = 20813 := (hS0 1 _ rfl).2.1
  unfold F_X11_comeLast at h
  refine hK _ _ _ _ _ _ _ ?_
  rw [fdX11_comeLast_0]
  simp only [gt_nil, true_and, eq_self, gt_aload_n, gt_rfk, gw_nth, gt_get_r, gt_get_i, gt_get_z, gt_iload_n, gt_ink, gt_iaload, gt_iadd, gt_iastore, gt_dup2, gt_iconst, gt_vret, bkX11_comeLast_0, ka0_0, ra0_0_0, ka0_1, la0_1]
  obtain ⟨c_1, h⟩ := gw_ife h
  refine ⟨c_1, ?_⟩
  obtain ⟨c_2, h⟩ := gw_ife h
  refine ⟨c_2, ?_⟩
  obtain ⟨μ_3, hμ_3, h⟩ := gw_lt h
  try rw [← hμ_3]
  obtain ⟨c_4, h⟩ := gw_ife h
  refine ⟨c_4, ?_⟩
  obtain ⟨c_5, h⟩ := gw_ife h
  refine ⟨c_5, ?_⟩
  obtain ⟨μ_6, hμ_6, h⟩ := gw_lt h
  try rw [← hμ_6]
  obtain rfl := gw_inj1 h
  exact ⟨hcc, hss, hq⟩
def F_X11_goOut_64 (n0 : Nat) (a0 : Nat) : Nat → Int32 → Int32 → Int32 → Int32 → gw_M → Option (gw_M)
  | 0, _, _, _, _, _ => none
  | n + 1, v1, v2, v4, v5, μ => (if 0 ≤ v2 ∧ v2.toNatClampNeg < 20813 then (if (μ (a0 + 1) v2.toNatClampNeg) ≤ v5 then (if 0 ≤ v2 ∧ v2.toNatClampNeg < 20813 then gw_let (gw_up μ (a0 + 1) v2.toNatClampNeg v4) (fun (μ_4 : gw_M) => some μ_4) else none) else (if 0 ≤ (v1 + v5) ∧ (v1 + v5).toNatClampNeg < 20813 then gw_let (gw_up μ (a0 + 1) (v1 + v5).toNatClampNeg 0) (fun (μ_6 : gw_M) => gw_let (v5 + 1) (fun (w_7 : Int32) => F_X11_goOut_64 n0 a0 n v1 v2 v4 w_7 μ_6)) else none)) else none)
def F_X11_goOut_54 (rec6 : Int32 → Int32 → Int32 → Int32 → Int32 → gw_M → Option (gw_M)) (n0 : Nat) (a0 : Nat) (v1 : Int32) (v2 : Int32) (v3 : Int32) (v4 : Int32) (v5 : Int32) (μ : gw_M) : Option (gw_M) := gw_let (v5 + 1) (fun (w_1 : Int32) => rec6 v1 v2 v3 v4 w_1 μ)
def F_X11_goOut_6 (n0 : Nat) (a0 : Nat) : Nat → Int32 → Int32 → Int32 → Int32 → Int32 → gw_M → Option (gw_M)
  | 0, _, _, _, _, _, _ => none
  | n + 1, v1, v2, v3, v4, v5, μ => (if 0 ≤ v2 ∧ v2.toNatClampNeg < 20813 then (if (μ (a0 + 1) v2.toNatClampNeg) ≤ v5 then F_X11_goOut_64 n0 a0 n0 v1 v2 v4 v4 μ else (if 0 ≤ (v1 + v5) ∧ (v1 + v5).toNatClampNeg < 20813 then (if ¬ (μ (a0 + 1) (v1 + v5).toNatClampNeg) = v3 then (if 0 ≤ (v1 + v5) ∧ (v1 + v5).toNatClampNeg < 20813 then (if 0 ≤ (v1 + v4) ∧ (v1 + v4).toNatClampNeg < 20813 then gw_let (gw_up μ (a0 + 1) (v1 + v4).toNatClampNeg (μ (a0 + 1) (v1 + v5).toNatClampNeg)) (fun (μ_7 : gw_M) => gw_let (v4 + 1) (fun (w_8 : Int32) => F_X11_goOut_54 (F_X11_goOut_6 n0 a0 n) n0 a0 v1 v2 v3 w_8 v5 μ_7)) else none) else none) else F_X11_goOut_54 (F_X11_goOut_6 n0 a0 n) n0 a0 v1 v2 v3 v4 v5 μ) else none)) else none)
def F_X11_goOut (n0 : Nat) (a0 : Nat) (v1 : Int32) (v2 : Int32) (v3 : Int32) (μ : gw_M) : Option (gw_M) := F_X11_goOut_6 n0 a0 n0 v1 v2 v3 0 0 μ
theorem B_X11_goOut_64 {l : Launch} {x : gw_C} {d : Nat} {S : gw_S} {Q : Option Value → gw_S → gw_M → Prop} {K : Nat → gw_Kt} {mc ms cc ss : Nat} (hcc : cc ≤ mc) (hss : ss ≤ ms) (hK : gw_cl l x (d + 0) mc ms bsX11_goOut Q K) {a0 : Nat} (hS0 : gw_sh S 11 a0) {n0 : Nat} : ∀ {n : Nat} {v1 v2 v4 v5} {u3 : Value} {μ : gw_M} {μ'}, F_X11_goOut_64 n0 a0 n v1 v2 v4 v5 μ = some μ' → Q none S μ' → K 64 [.ref a0, .int v1, .int v2, u3, .int v4, .int v5] [] S μ cc ss := by
  have ka0_0 : gw_kd S a0 = 11 := (hS0 0 _ rfl).1
  have ra0_0_0 : gw_rf S a0 0 = a0 + 1 := (hS0 0 _ rfl).2.2 (0, 1) (by decide)
  have ka0_1 : gw_kd S (a0 + 1) = 12 := (hS0 1 _ rfl).1
  have la0_1 : gw_ln S (a0 + 1) = 20813 := (hS0 1 _ rfl).2.1
  intro n
  induction n with
  | zero => intro v1 v2 v4 v5 u3 μ μ' h hq; simp [F_X11_goOut_64] at h
  | succ n ih =>
    intro v1 v2 v4 v5 u3 μ μ' h hq
    simp only [F_X11_goOut_64] at h
    refine hK _ _ _ _ _ _ _ ?_
    rw [fdX11_goOut_64]
    simp only [gt_nil, true_and, eq_self, gt_iload, gt_ink, gw_nth, gt_aload_n, gt_rfk, gt_get_r, gt_get_i, gt_get_z, gt_iload_n, gt_iaload, gt_icmp, gt_iadd, gt_iconst, gt_iastore, gt_iinc, gw_set, gt_goto, bkX11_goOut_64, ka0_0, ra0_0_0, ka0_1, la0_1]
    obtain ⟨c_1, h⟩ := gw_ife h
    refine ⟨c_1, ?_⟩
    refine ⟨fun c_2 => ?_, fun c_2 => ?_⟩
    · replace h := gw_ifp2 (gw_c2_ge _ _) h c_2
      refine hK _ _ _ _ _ _ _ ?_
      rw [fdX11_goOut_91]
      simp only [gt_nil, true_and, eq_self, gt_aload_n, gt_rfk, gw_nth, gt_get_r, gt_get_i, gt_get_z, gt_iload_n, gt_ink, gt_iload, gt_iastore, gt_vret, bkX11_goOut_91, ka0_0, ra0_0_0, ka0_1, la0_1]
      obtain ⟨c_3, h⟩ := gw_ife h
      refine ⟨c_3, ?_⟩
      obtain ⟨μ_4, hμ_4, h⟩ := gw_lt h
      try rw [← hμ_4]
      obtain rfl := gw_inj1 h
      exact ⟨hcc, hss, hq⟩
    · replace h := gw_ifn2 (gw_c2_ge _ _) h c_2
      obtain ⟨c_5, h⟩ := gw_ife h
      refine ⟨c_5, ?_⟩
      obtain ⟨μ_6, hμ_6, h⟩ := gw_lt h
      try rw [← hμ_6]
      obtain ⟨w_7, hw_7, h⟩ := gw_lt h
      try rw [← hw_7]
      exact ih h hq
theorem B_X11_goOut_54 {l : Launch} {x : gw_C} {d : Nat} {S : gw_S} {Q : Option Value → gw_S → gw_M → Prop} {K : Nat → gw_Kt} {mc ms cc ss : Nat} (hcc : cc ≤ mc) (hss : ss ≤ ms) (hK : gw_cl l x (d + 0) mc ms bsX11_goOut Q K) {a0 : Nat} (hS0 : gw_sh S 11 a0) {rec6 : Int32 → Int32 → Int32 → Int32 → Int32 → gw_M → Option (gw_M)} (hrec6 : ∀ {v1 v2 v3 v4 v5} {μ : gw_M} {μ'}, rec6 v1 v2 v3 v4 v5 μ = some μ' → Q none S μ' → K 6 [.ref a0, .int v1, .int v2, .int v3, .int v4, .int v5] [] S μ cc ss) {n0 : Nat} {v1 v2 v3 v4 v5} {μ : gw_M} {μ'} (h : F_X11_goOut_54 rec6 n0 a0 v1 v2 v3 v4 v5 μ = some μ') (hq : Q none S μ') : K 54 [.ref a0, .int v1, .int v2, .int v3, .int v4, .int v5] [] S μ cc ss := by
  unfold F_X11_goOut_54 at h
  refine hK _ _ _ _ _ _ _ ?_
  rw [fdX11_goOut_54]
  simp only [gt_nil, true_and, eq_self, gt_iinc, gt_ink, gw_nth, gw_set, gt_goto, bkX11_goOut_54]
  obtain ⟨w_1, hw_1, h⟩ := gw_lt h
  try rw [← hw_1]
  exact hrec6 h hq
theorem B_X11_goOut_6 {l : Launch} {x : gw_C} {d : Nat} {S : gw_S} {Q : Option Value → gw_S → gw_M → Prop} {K : Nat → gw_Kt} {mc ms cc ss : Nat} (hcc : cc ≤ mc) (hss : ss ≤ ms) (hK : gw_cl l x (d + 0) mc ms bsX11_goOut Q K) {a0 : Nat} (hS0 : gw_sh S 11 a0) {n0 : Nat} : ∀ {n : Nat} {v1 v2 v3 v4 v5} {μ : gw_M} {μ'}, F_X11_goOut_6 n0 a0 n v1 v2 v3 v4 v5 μ = some μ' → Q none S μ' → K 6 [.ref a0, .int v1, .int v2, .int v3, .int v4, .int v5] [] S μ cc ss := by
  have ka0_0 : gw_kd S a0 = 11 := (hS0 0 _ rfl).1
  have ra0_0_0 : gw_rf S a0 0 = a0 + 1 := (hS0 0 _ rfl).2.2 (0, 1) (by decide)
  have ka0_1 : gw_kd S (a0 + 1) = 12 := (hS0 1 _ rfl).1
  have la0_1 : gw_ln S (a0 + 1) = 20813 := (hS0 1 _ rfl).2.1
  intro n
  induction n with
  | zero => intro v1 v2 v3 v4 v5 μ μ' h hq; simp [F_X11_goOut_6] at h
  | succ n ih =>
    intro v1 v2 v3 v4 v5 μ μ' h hq
    simp only [F_X11_goOut_6] at h
    refine hK _ _ _ _ _ _ _ ?_
    rw [fdX11_goOut_6]
    simp only [gt_nil, true_and, eq_self, gt_iload, gt_ink, gw_nth, gt_aload_n, gt_rfk, gt_get_r, gt_get_i, gt_get_z, gt_iload_n, gt_iaload, gt_icmp, gt_iadd, gt_goto, bkX11_goOut_6, ka0_0, ra0_0_0, ka0_1, la0_1]
    obtain ⟨c_1, h⟩ := gw_ife h
    refine ⟨c_1, ?_⟩
    refine ⟨fun c_2 => ?_, fun c_2 => ?_⟩
    · replace h := gw_ifp2 (gw_c2_ge _ _) h c_2
      refine hK _ _ _ _ _ _ _ ?_
      rw [fdX11_goOut_60]
      simp only [gt_nil, true_and, eq_self, gt_iload, gt_ink, gw_nth, gt_istore, gw_set, bkX11_goOut_60, ka0_0, ra0_0_0, ka0_1, la0_1]
      exact B_X11_goOut_64 hcc hss hK hS0 h hq
    · replace h := gw_ifn2 (gw_c2_ge _ _) h c_2
      obtain ⟨c_3, h⟩ := gw_ife h
      refine ⟨c_3, ?_⟩
      refine ⟨fun c_4 => ?_, fun c_4 => ?_⟩
      · replace h := gw_ifp2 (gw_c2_ne _ _) h c_4
        refine hK _ _ _ _ _ _ _ ?_
        rw [fdX11_goOut_33]
        simp only [gt_nil, true_and, eq_self, gt_aload_n, gt_rfk, gw_nth, gt_get_r, gt_get_i, gt_get_z, gt_iload_n, gt_ink, gt_iload, gt_iadd, gt_iaload, gt_iastore, gt_iinc, gw_set, bkX11_goOut_33, ka0_0, ra0_0_0, ka0_1, la0_1]
        obtain ⟨c_5, h⟩ := gw_ife h
        refine ⟨c_5, ?_⟩
        obtain ⟨c_6, h⟩ := gw_ife h
        refine ⟨c_6, ?_⟩
        obtain ⟨μ_7, hμ_7, h⟩ := gw_lt h
        try rw [← hμ_7]
        obtain ⟨w_8, hw_8, h⟩ := gw_lt h
        try rw [← hw_8]
        exact B_X11_goOut_54 hcc hss hK hS0 ih h hq
      · replace h := gw_ifn2 (gw_c2_ne _ _) h c_4
        exact B_X11_goOut_54 hcc hss hK hS0 ih h hq
theorem ok_X11_goOut {l : Launch} {x : gw_C} {d : Nat} {S : gw_S} {Q : Option Value → gw_S → gw_M → Prop} {v1 v2 v3 : Int32} {a0 : Nat} {n0 : Nat} {μ : gw_M} {μ'} (hS0 : gw_sh S 11 a0) (h : F_X11_goOut n0 a0 v1 v2 v3 μ = some μ') (hq : Q none S μ') : gw_ok l x (d + 1) sgX11_goOut 0 0 [.ref a0, .int v1, .int v2, .int v3] S μ Q := by
  refine gw_ok_of stX11_goOut (lv0 := [.ref a0, .int v1, .int v2, .int v3, .retAddr 0, .retAddr 0]) (Nat.le_of_ble_eq_true rfl) rfl rfl ?_
  intro K hK
  have hcc : 0 ≤ 0 := Nat.zero_le _
  have hss : 0 ≤ 0 := Nat.zero_le _
  unfold F_X11_goOut at h
  refine hK _ _ _ _ _ _ _ ?_
  rw [fdX11_goOut_0]
  simp only [gt_nil, true_and, eq_self, gt_iconst, gt_istore, gw_set, bkX11_goOut_0]
  exact B_X11_goOut_6 hcc hss hK hS0 h hq
def F_X11_unfold (n0 : Nat) (a0 : Nat) (v1 : Int32) (μ : gw_M) : Option (gw_M) := (F_X11_toOf n0 a0 3 v1 μ).bind (fun (r_1 : Int32) => (if ¬ r_1 = (-1) then (F_X11_entryAt n0 a0 3 v1 μ).bind (fun (r_6 : Int32) => (if 0 ≤ r_6 ∧ r_6.toNatClampNeg < 20813 then gw_let (gw_up μ (a0 + 1) r_6.toNatClampNeg (-1)) (fun (μ_11 : gw_M) => (F_X11_entryAt n0 a0 3 v1 μ_11).bind (fun (r_12 : Int32) => (if 0 ≤ (r_12 + (1 : Int32)) ∧ (r_12 + (1 : Int32)).toNatClampNeg < 20813 then gw_let (gw_up μ_11 (a0 + 1) (r_12 + (1 : Int32)).toNatClampNeg 0) (fun (μ_17 : gw_M) => (F_X11_goOut n0 a0 786 23 v1 μ_17).bind (fun (μ_19 : gw_M) => some μ_19)) else none))) else none)) else some μ))
theorem ok_X11_unfold {l : Launch} {x : gw_C} {d : Nat} {S : gw_S} {Q : Option Value → gw_S → gw_M → Prop} {v1 : Int32} {a0 : Nat} {n0 : Nat} {μ : gw_M} {μ'} (hS0 : gw_sh S 11 a0) (h : F_X11_unfold n0 a0 v1 μ = some μ') (hq : Q none S μ') : gw_ok l x (d + 4) sgX11_unfold 0 0 [.ref a0, .int v1] S μ Q := by
  refine gw_ok_of stX11_unfold (lv0 := [.ref a0, .int v1]) (Nat.le_of_ble_eq_true rfl) rfl rfl ?_
  intro K hK
  have hcc : 0 ≤ 0 := Nat.zero_le _
  have hss : 0 ≤ 0 := Nat.zero_le _
  have ka0_0 : gw_kd S a0 = 11 := (hS0 0 _ rfl).1
  have ra0_0_0 : gw_rf S a0 0 = a0 + 1 := (hS0 0 _ rfl).2.2 (0, 1) (by decide)
  have ka0_1 : gw_kd S (a0 + 1) = 12 := (hS0 1 _ rfl).1
  have la0_1 : gw_ln S (a0 + 1) = 20813 := (hS0 1 _ rfl).2.1
  unfold F_X11_unfold at h
  refine hK _ _ _ _ _ _ _ ?_
  rw [fdX11_unfold_0]
  simp only [gt_nil, true_and, eq_self, gt_aload_n, gt_rfk, gw_nth, gt_iconst, gt_iload_n, gt_ink, gt_v0, gt_v1, gt_v2, gt_v3, gt_v4, gt_v5, gt_icmp, gt_vret, bkX11_unfold_0, ka0_0, ra0_0_0, ka0_1, la0_1]
  obtain ⟨r_1, e_3, h⟩ := gw_bnd h
  refine ⟨rfl, 0, 0, hcc, hss, ok_X11_toOf hS0 e_3 ?_⟩
  simp only [gt_nil, true_and, eq_self, gt_iconst, gt_icmp, gt_vret, Option.toList, List.cons_append, List.nil_append, Nat.add_zero, ka0_0, ra0_0_0, ka0_1, la0_1]
  refine ⟨fun c_5 => ?_, fun c_5 => ?_⟩
  · replace h := gw_ifp2 (gw_c2_ne _ _) h c_5
    refine hK _ _ _ _ _ _ _ ?_
    rw [fdX11_unfold_11]
    simp only [gt_nil, true_and, eq_self, gt_aload_n, gt_rfk, gw_nth, gt_get_r, gt_get_i, gt_get_z, gt_iconst, gt_iload_n, gt_ink, gt_v0, gt_v1, gt_v2, gt_v3, gt_v4, gt_v5, gt_iastore, gt_iadd, gt_sipush, gt_bipush, gt_vret, bkX11_unfold_11, ka0_0, ra0_0_0, ka0_1, la0_1]
    obtain ⟨r_6, e_8, h⟩ := gw_bnd h
    refine ⟨rfl, 0, 0, hcc, hss, ok_X11_entryAt hS0 e_8 ?_⟩
    simp only [gt_nil, true_and, eq_self, gt_iconst, gt_iastore, gt_aload_n, gt_rfk, gw_nth, gt_get_r, gt_get_i, gt_get_z, gt_iload_n, gt_ink, gt_v0, gt_v1, gt_v2, gt_v3, gt_v4, gt_v5, gt_iadd, gt_sipush, gt_bipush, gt_vret, Option.toList, List.cons_append, List.nil_append, Nat.add_zero, ka0_0, ra0_0_0, ka0_1, la0_1]
    obtain ⟨c_10, h⟩ := gw_ife h
    refine ⟨c_10, ?_⟩
    obtain ⟨μ_11, hμ_11, h⟩ := gw_lt h
    try rw [← hμ_11]
    obtain ⟨r_12, e_14, h⟩ := gw_bnd h
    refine ⟨rfl, 0, 0, hcc, hss, ok_X11_entryAt hS0 e_14 ?_⟩
    simp only [gt_nil, true_and, eq_self, gt_iconst, gt_iadd, gt_iastore, gt_aload_n, gt_rfk, gw_nth, gt_sipush, gt_bipush, gt_iload_n, gt_ink, gt_v0, gt_v1, gt_v2, gt_v3, gt_v4, gt_v5, gt_vret, Option.toList, List.cons_append, List.nil_append, Nat.add_zero, ka0_0, ra0_0_0, ka0_1, la0_1]
    obtain ⟨c_16, h⟩ := gw_ife h
    refine ⟨c_16, ?_⟩
    obtain ⟨μ_17, hμ_17, h⟩ := gw_lt h
    try rw [← hμ_17]
    obtain ⟨μ_19, e_20, h⟩ := gw_bnd h
    refine ⟨rfl, 0, 0, hcc, hss, ok_X11_goOut hS0 e_20 ?_⟩
    simp only [gt_nil, true_and, eq_self, gt_vret, Option.toList, List.cons_append, List.nil_append, Nat.add_zero, ka0_0, ra0_0_0, ka0_1, la0_1]
    obtain rfl := gw_inj1 h
    exact ⟨hcc, hss, hq⟩
  · replace h := gw_ifn2 (gw_c2_ne _ _) h c_5
    obtain rfl := gw_inj1 h
    exact ⟨hcc, hss, hq⟩
def F_X11_unfoldAll_2 (n0 : Nat) (a0 : Nat) : Nat → Int32 → gw_M → Option (gw_M)
  | 0, _, _ => none
  | n + 1, v1, μ => (if 16 ≤ v1 then some μ else (F_X11_unfold n0 a0 v1 μ).bind (fun (μ_3 : gw_M) => gw_let (v1 + 1) (fun (w_6 : Int32) => F_X11_unfoldAll_2 n0 a0 n w_6 μ_3)))
def F_X11_unfoldAll (n0 : Nat) (a0 : Nat) (μ : gw_M) : Option (gw_M) := F_X11_unfoldAll_2 n0 a0 n0 0 μ
theorem B_X11_unfoldAll_2 {l : Launch} {x : gw_C} {d : Nat} {S : gw_S} {Q : Option Value → gw_S → gw_M → Prop} {K : Nat → gw_Kt} {mc ms cc ss : Nat} (hcc : cc ≤ mc) (hss : ss ≤ ms) (hK : gw_cl l x (d + 4) mc ms bsX11_unfoldAll Q K) {a0 : Nat} (hS0 : gw_sh S 11 a0) {n0 : Nat} : ∀ {n : Nat} {v1} {μ : gw_M} {μ'}, F_X11_unfoldAll_2 n0 a0 n v1 μ = some μ' → Q none S μ' → K 2 [.ref a0, .int v1] [] S μ cc ss := by
  have ka0_0 : gw_kd S a0 = 11 := (hS0 0 _ rfl).1
  intro n
  induction n with
  | zero => intro v1 μ μ' h hq; simp [F_X11_unfoldAll_2] at h
  | succ n ih =>
    intro v1 μ μ' h hq
    simp only [F_X11_unfoldAll_2] at h
    refine hK _ _ _ _ _ _ _ ?_
    rw [fdX11_unfoldAll_2]
    simp only [gt_nil, true_and, eq_self, gt_iload_n, gt_ink, gw_nth, gt_bipush, gt_icmp, gt_aload_n, gt_rfk, gt_v0, gt_v1, gt_v2, gt_v3, gt_v4, gt_v5, gt_iinc, gw_set, gt_goto, bkX11_unfoldAll_2, ka0_0]
    refine ⟨fun c_1 => ?_, fun c_1 => ?_⟩
    · replace h := gw_ifp2 (gw_c2_ge _ _) h c_1
      refine hK _ _ _ _ _ _ _ ?_
      rw [fdX11_unfoldAll_19]
      simp only [gt_nil, true_and, eq_self, gt_vret, bkX11_unfoldAll_19, ka0_0]
      obtain rfl := gw_inj1 h
      exact ⟨hcc, hss, hq⟩
    · replace h := gw_ifn2 (gw_c2_ge _ _) h c_1
      obtain ⟨μ_3, e_4, h⟩ := gw_bnd h
      refine ⟨rfl, 0, 0, hcc, hss, ok_X11_unfold hS0 e_4 ?_⟩
      simp only [gt_nil, true_and, eq_self, gt_iinc, gt_ink, gw_nth, gw_set, gt_goto, Option.toList, List.cons_append, List.nil_append, Nat.add_zero, ka0_0]
      obtain ⟨w_6, hw_6, h⟩ := gw_lt h
      try rw [← hw_6]
      exact ih h hq
theorem ok_X11_unfoldAll {l : Launch} {x : gw_C} {d : Nat} {S : gw_S} {Q : Option Value → gw_S → gw_M → Prop} {a0 : Nat} {n0 : Nat} {μ : gw_M} {μ'} (hS0 : gw_sh S 11 a0) (h : F_X11_unfoldAll n0 a0 μ = some μ') (hq : Q none S μ') : gw_ok l x (d + 5) sgX11_unfoldAll 0 0 [.ref a0] S μ Q := by
  refine gw_ok_of stX11_unfoldAll (lv0 := [.ref a0, .retAddr 0]) (Nat.le_of_ble_eq_true rfl) rfl rfl ?_
  intro K hK
  have hcc : 0 ≤ 0 := Nat.zero_le _
  have hss : 0 ≤ 0 := Nat.zero_le _
  unfold F_X11_unfoldAll at h
  refine hK _ _ _ _ _ _ _ ?_
  rw [fdX11_unfoldAll_0]
  simp only [gt_nil, true_and, eq_self, gt_iconst, gt_istore_n, gw_set, bkX11_unfoldAll_0]
  exact B_X11_unfoldAll_2 hcc hss hK hS0 h hq
def F_X11_unfoldTo_23 (rec2 : Int32 → Int32 → gw_M → Option (gw_M)) (n0 : Nat) (a0 : Nat) (v1 : Int32) (v2 : Int32) (μ : gw_M) : Option (gw_M) := gw_let (v2 + 1) (fun (w_1 : Int32) => rec2 v1 w_1 μ)
def F_X11_unfoldTo_2 (n0 : Nat) (a0 : Nat) : Nat → Int32 → Int32 → gw_M → Option (gw_M)
  | 0, _, _, _ => none
  | n + 1, v1, v2, μ => (if 16 ≤ v2 then some μ else (F_X11_toOf n0 a0 1 v2 μ).bind (fun (r_2 : Int32) => (if ¬ r_2 = v1 then F_X11_unfoldTo_23 (F_X11_unfoldTo_2 n0 a0 n) n0 a0 v1 v2 μ else (F_X11_unfold n0 a0 v2 μ).bind (fun (μ_8 : gw_M) => F_X11_unfoldTo_23 (F_X11_unfoldTo_2 n0 a0 n) n0 a0 v1 v2 μ_8))))
def F_X11_unfoldTo (n0 : Nat) (a0 : Nat) (v1 : Int32) (μ : gw_M) : Option (gw_M) := F_X11_unfoldTo_2 n0 a0 n0 v1 0 μ
theorem B_X11_unfoldTo_23 {l : Launch} {x : gw_C} {d : Nat} {S : gw_S} {Q : Option Value → gw_S → gw_M → Prop} {K : Nat → gw_Kt} {mc ms cc ss : Nat} (hcc : cc ≤ mc) (hss : ss ≤ ms) (hK : gw_cl l x (d + 4) mc ms bsX11_unfoldTo Q K) {a0 : Nat} (hS0 : gw_sh S 11 a0) {rec2 : Int32 → Int32 → gw_M → Option (gw_M)} (hrec2 : ∀ {v1 v2} {μ : gw_M} {μ'}, rec2 v1 v2 μ = some μ' → Q none S μ' → K 2 [.ref a0, .int v1, .int v2] [] S μ cc ss) {n0 : Nat} {v1 v2} {μ : gw_M} {μ'} (h : F_X11_unfoldTo_23 rec2 n0 a0 v1 v2 μ = some μ') (hq : Q none S μ') : K 23 [.ref a0, .int v1, .int v2] [] S μ cc ss := by
  unfold F_X11_unfoldTo_23 at h
  refine hK _ _ _ _ _ _ _ ?_
  rw [fdX11_unfoldTo_23]
  simp only [gt_nil, true_and, eq_self, gt_iinc, gt_ink, gw_nth, gw_set, gt_goto, bkX11_unfoldTo_23]
  obtain ⟨w_1, hw_1, h⟩ := gw_lt h
  try rw [← hw_1]
  exact hrec2 h hq
theorem B_X11_unfoldTo_2 {l : Launch} {x : gw_C} {d : Nat} {S : gw_S} {Q : Option Value → gw_S → gw_M → Prop} {K : Nat → gw_Kt} {mc ms cc ss : Nat} (hcc : cc ≤ mc) (hss : ss ≤ ms) (hK : gw_cl l x (d + 4) mc ms bsX11_unfoldTo Q K) {a0 : Nat} (hS0 : gw_sh S 11 a0) {n0 : Nat} : ∀ {n : Nat} {v1 v2} {μ : gw_M} {μ'}, F_X11_unfoldTo_2 n0 a0 n v1 v2 μ = some μ' → Q none S μ' → K 2 [.ref a0, .int v1, .int v2] [] S μ cc ss := by
  have ka0_0 : gw_kd S a0 = 11 := (hS0 0 _ rfl).1
  intro n
  induction n with
  | zero => intro v1 v2 μ μ' h hq; simp [F_X11_unfoldTo_2] at h
  | succ n ih =>
    intro v1 v2 μ μ' h hq
    simp only [F_X11_unfoldTo_2] at h
    refine hK _ _ _ _ _ _ _ ?_
    rw [fdX11_unfoldTo_2]
    simp only [gt_nil, true_and, eq_self, gt_iload_n, gt_ink, gw_nth, gt_bipush, gt_icmp, gt_aload_n, gt_rfk, gt_iconst, gt_v0, gt_v1, gt_v2, gt_v3, gt_v4, gt_v5, bkX11_unfoldTo_2, ka0_0]
    refine ⟨fun c_1 => ?_, fun c_1 => ?_⟩
    · replace h := gw_ifp2 (gw_c2_ge _ _) h c_1
      refine hK _ _ _ _ _ _ _ ?_
      rw [fdX11_unfoldTo_29]
      simp only [gt_nil, true_and, eq_self, gt_vret, bkX11_unfoldTo_29, ka0_0]
      obtain rfl := gw_inj1 h
      exact ⟨hcc, hss, hq⟩
    · replace h := gw_ifn2 (gw_c2_ge _ _) h c_1
      obtain ⟨r_2, e_4, h⟩ := gw_bnd h
      refine ⟨rfl, 0, 0, hcc, hss, ok_X11_toOf hS0 e_4 ?_⟩
      simp only [gt_nil, true_and, eq_self, gt_iload_n, gt_ink, gw_nth, gt_icmp, gt_aload_n, gt_rfk, gt_v0, gt_v1, gt_v2, gt_v3, gt_v4, gt_v5, Option.toList, List.cons_append, List.nil_append, Nat.add_zero, ka0_0]
      refine ⟨fun c_6 => ?_, fun c_6 => ?_⟩
      · replace h := gw_ifp2 (gw_c2_ne _ _) h c_6
        exact B_X11_unfoldTo_23 hcc hss hK hS0 ih h hq
      · replace h := gw_ifn2 (gw_c2_ne _ _) h c_6
        obtain ⟨μ_8, e_9, h⟩ := gw_bnd h
        refine ⟨rfl, 0, 0, hcc, hss, ok_X11_unfold hS0 e_9 ?_⟩
        simp only [gt_nil, true_and, eq_self, Option.toList, List.cons_append, List.nil_append, Nat.add_zero, ka0_0]
        exact B_X11_unfoldTo_23 hcc hss hK hS0 ih h hq
theorem ok_X11_unfoldTo {l : Launch} {x : gw_C} {d : Nat} {S : gw_S} {Q : Option Value → gw_S → gw_M → Prop} {v1 : Int32} {a0 : Nat} {n0 : Nat} {μ : gw_M} {μ'} (hS0 : gw_sh S 11 a0) (h : F_X11_unfoldTo n0 a0 v1 μ = some μ') (hq : Q none S μ') : gw_ok l x (d + 5) sgX11_unfoldTo 0 0 [.ref a0, .int v1] S μ Q := by
  refine gw_ok_of stX11_unfoldTo (lv0 := [.ref a0, .int v1, .retAddr 0]) (Nat.le_of_ble_eq_true rfl) rfl rfl ?_
  intro K hK
  have hcc : 0 ≤ 0 := Nat.zero_le _
  have hss : 0 ≤ 0 := Nat.zero_le _
  unfold F_X11_unfoldTo at h
  refine hK _ _ _ _ _ _ _ ?_
  rw [fdX11_unfoldTo_0]
  simp only [gt_nil, true_and, eq_self, gt_iconst, gt_istore_n, gw_set, bkX11_unfoldTo_0]
  exact B_X11_unfoldTo_2 hcc hss hK hS0 h hq
def F_X11_layEntry_46 (n0 : Nat) (a0 : Nat) (v1 : Int32) (v2 : Int32) (v3 : Int32) (μ : gw_M) : Option (gw_M) := (if v1 = 2 then (F_X11_unfoldTo n0 a0 v2 μ).bind (fun (μ_3 : gw_M) => gw_let (gw_up μ_3 (a0 + 1) 27 ((μ_3 (a0 + 1) 27) &&& (((1 : Int32) <<< (v2 &&& 31)) ^^^ ((-1) : Int32)))) (fun (μ_6 : gw_M) => (F_X11_goOut n0 a0 738 22 v2 μ_6).bind (fun (μ_8 : gw_M) => (if v3 = (-1) then some μ_8 else (F_X11_comeLast n0 a0 738 22 v2 μ_8).bind (fun (μ_13 : gw_M) => some μ_13))))) else some μ)
def F_X11_layEntry_35 (n0 : Nat) (a0 : Nat) (v1 : Int32) (v2 : Int32) (v3 : Int32) (s1 : Int32) (s2 : Int32) (μ : gw_M) : Option (gw_M) := (if 0 ≤ s1 ∧ s1.toNatClampNeg < 20813 then gw_let (gw_up μ (a0 + 1) s1.toNatClampNeg s2) (fun (μ_2 : gw_M) => (if ¬ v1 = 1 then F_X11_layEntry_46 n0 a0 v1 v2 v3 μ_2 else (F_X11_unfold n0 a0 v2 μ_2).bind (fun (μ_5 : gw_M) => F_X11_layEntry_46 n0 a0 v1 v2 v3 μ_5))) else none)
def F_X11_layEntry (n0 : Nat) (a0 : Nat) (v1 : Int32) (v2 : Int32) (v3 : Int32) (v4 : Int32) (μ : gw_M) : Option (gw_M) := (F_X11_entryAt n0 a0 v1 v2 μ).bind (fun (r_1 : Int32) => (if 0 ≤ r_1 ∧ r_1.toNatClampNeg < 20813 then gw_let (gw_up μ (a0 + 1) r_1.toNatClampNeg v3) (fun (μ_6 : gw_M) => (F_X11_entryAt n0 a0 v1 v2 μ_6).bind (fun (r_7 : Int32) => (if ¬ v3 = (-1) then F_X11_layEntry_35 n0 a0 v1 v2 v3 (r_7 + (1 : Int32)) v4 μ_6 else F_X11_layEntry_35 n0 a0 v1 v2 v3 (r_7 + (1 : Int32)) 0 μ_6))) else none))
theorem B_X11_layEntry_46 {l : Launch} {x : gw_C} {d : Nat} {S : gw_S} {Q : Option Value → gw_S → gw_M → Prop} {K : Nat → gw_Kt} {mc ms cc ss : Nat} (hcc : cc ≤ mc) (hss : ss ≤ ms) (hK : gw_cl l x (d + 5) mc ms bsX11_layEntry Q K) {a0 : Nat} (hS0 : gw_sh S 11 a0) {n0 : Nat} {v1 v2 v3} {u4 : Value} {μ : gw_M} {μ'} (h : F_X11_layEntry_46 n0 a0 v1 v2 v3 μ = some μ') (hq : Q none S μ') : K 46 [.ref a0, .int v1, .int v2, .int v3, u4] [] S μ cc ss := by
  have ka0_0 : gw_kd S a0 = 11 := (hS0 0 _ rfl).1
  have ra0_0_0 : gw_rf S a0 0 = a0 + 1 := (hS0 0 _ rfl).2.2 (0, 1) (by decide)
  have ka0_1 : gw_kd S (a0 + 1) = 12 := (hS0 1 _ rfl).1
  have la0_1 : gw_ln S (a0 + 1) = 20813 := (hS0 1 _ rfl).2.1
  unfold F_X11_layEntry_46 at h
  refine hK _ _ _ _ _ _ _ ?_
  rw [fdX11_layEntry_46]
  simp only [gt_nil, true_and, eq_self, gt_iload_n, gt_ink, gw_nth, gt_iconst, gt_icmp, gt_vret, bkX11_layEntry_46, ka0_0, ra0_0_0, ka0_1, la0_1, (show Int32.toNatClampNeg 27 = 27 from rfl)]
  refine ⟨fun c_1 => ?_, fun c_1 => ?_⟩
  · replace h := gw_ifp2 (gw_c2_eq _ _) h c_1
    refine hK _ _ _ _ _ _ _ ?_
    rw [fdX11_layEntry_52]
    simp only [gt_nil, true_and, eq_self, gt_aload_n, gt_rfk, gw_nth, gt_iload_n, gt_ink, gt_v0, gt_v1, gt_v2, gt_v3, gt_v4, gt_v5, gt_get_r, gt_get_i, gt_get_z, gt_bipush, gt_dup2, gt_iaload, gt_iconst, gt_ishl, gt_ixor, gt_iand, gt_iastore, gt_sipush, gt_icmp, bkX11_layEntry_52, ka0_0, ra0_0_0, ka0_1, la0_1, (show Int32.toNatClampNeg 27 = 27 from rfl)]
    obtain ⟨μ_3, e_4, h⟩ := gw_bnd h
    refine ⟨rfl, 0, 0, hcc, hss, ok_X11_unfoldTo hS0 e_4 ?_⟩
    simp only [gt_nil, true_and, eq_self, gt_aload_n, gt_rfk, gw_nth, gt_get_r, gt_get_i, gt_get_z, gt_bipush, gt_dup2, gt_iaload, gt_iconst, gt_iload_n, gt_ink, gt_ishl, gt_ixor, gt_iand, gt_iastore, gt_sipush, gt_v0, gt_v1, gt_v2, gt_v3, gt_v4, gt_v5, gt_icmp, Option.toList, List.cons_append, List.nil_append, Nat.add_zero, ka0_0, ra0_0_0, ka0_1, la0_1, (show Int32.toNatClampNeg 27 = 27 from rfl)]
    refine ⟨(⟨by decide, by decide⟩ : gw_in 27 20813), ?_⟩
    refine ⟨(⟨by decide, by decide⟩ : gw_in 27 20813), ?_⟩
    obtain ⟨μ_6, hμ_6, h⟩ := gw_lt h
    try rw [← hμ_6]
    obtain ⟨μ_8, e_9, h⟩ := gw_bnd h
    refine ⟨rfl, 0, 0, hcc, hss, ok_X11_goOut hS0 e_9 ?_⟩
    simp only [gt_nil, true_and, eq_self, gt_iload_n, gt_ink, gw_nth, gt_iconst, gt_icmp, gt_aload_n, gt_rfk, gt_sipush, gt_bipush, gt_v0, gt_v1, gt_v2, gt_v3, gt_v4, gt_v5, Option.toList, List.cons_append, List.nil_append, Nat.add_zero, ka0_0, ra0_0_0, ka0_1, la0_1, (show Int32.toNatClampNeg 27 = 27 from rfl)]
    refine ⟨fun c_11 => ?_, fun c_11 => ?_⟩
    · replace h := gw_ifp2 (gw_c2_eq _ _) h c_11
      refine hK _ _ _ _ _ _ _ ?_
      rw [fdX11_layEntry_97]
      simp only [gt_nil, true_and, eq_self, gt_vret, bkX11_layEntry_97, ka0_0, ra0_0_0, ka0_1, la0_1, (show Int32.toNatClampNeg 27 = 27 from rfl)]
      obtain rfl := gw_inj1 h
      exact ⟨hcc, hss, hq⟩
    · replace h := gw_ifn2 (gw_c2_eq _ _) h c_11
      obtain ⟨μ_13, e_14, h⟩ := gw_bnd h
      refine ⟨rfl, 0, 0, hcc, hss, ok_X11_comeLast hS0 e_14 ?_⟩
      simp only [gt_nil, true_and, eq_self, Option.toList, List.cons_append, List.nil_append, Nat.add_zero, ka0_0, ra0_0_0, ka0_1, la0_1, (show Int32.toNatClampNeg 27 = 27 from rfl)]
      refine hK _ _ _ _ _ _ _ ?_
      rw [fdX11_layEntry_97]
      simp only [gt_nil, true_and, eq_self, gt_vret, bkX11_layEntry_97, ka0_0, ra0_0_0, ka0_1, la0_1, (show Int32.toNatClampNeg 27 = 27 from rfl)]
      obtain rfl := gw_inj1 h
      exact ⟨hcc, hss, hq⟩
  · replace h := gw_ifn2 (gw_c2_eq _ _) h c_1
    obtain rfl := gw_inj1 h
    exact ⟨hcc, hss, hq⟩
theorem B_X11_layEntry_35 {l : Launch} {x : gw_C} {d : Nat} {S : gw_S} {Q : Option Value → gw_S → gw_M → Prop} {K : Nat → gw_Kt} {mc ms cc ss : Nat} (hcc : cc ≤ mc) (hss : ss ≤ ms) (hK : gw_cl l x (d + 5) mc ms bsX11_layEntry Q K) {a0 : Nat} (hS0 : gw_sh S 11 a0) {n0 : Nat} {v1 v2 v3 s1 s2} {u4 : Value} {μ : gw_M} {μ'} (h : F_X11_layEntry_35 n0 a0 v1 v2 v3 s1 s2 μ = some μ') (hq : Q none S μ') : K 35 [.ref a0, .int v1, .int v2, .int v3, u4] [.int s2, .int s1, .ref (a0 + 1)] S μ cc ss := by
  have ka0_0 : gw_kd S a0 = 11 := (hS0 0 _ rfl).1
  have ka0_1 : gw_kd S (a0 + 1) = 12 := (hS0 1 _ rfl).1
  have la0_1 : gw_ln S (a0 + 1) = 20813 := (hS0 1 _ rfl).2.1
  unfold F_X11_layEntry_35 at h
  refine hK _ _ _ _ _ _ _ ?_
  rw [fdX11_layEntry_35]
  simp only [gt_nil, true_and, eq_self, gt_iastore, gt_iload_n, gt_ink, gw_nth, gt_iconst, gt_icmp, gt_aload_n, gt_rfk, gt_v0, gt_v1, gt_v2, gt_v3, gt_v4, gt_v5, bkX11_layEntry_35, ka0_0, ka0_1, la0_1]
  obtain ⟨c_1, h⟩ := gw_ife h
  refine ⟨c_1, ?_⟩
  obtain ⟨μ_2, hμ_2, h⟩ := gw_lt h
  try rw [← hμ_2]
  refine ⟨fun c_3 => ?_, fun c_3 => ?_⟩
  · replace h := gw_ifp2 (gw_c2_ne _ _) h c_3
    exact B_X11_layEntry_46 hcc hss hK hS0 h hq
  · replace h := gw_ifn2 (gw_c2_ne _ _) h c_3
    obtain ⟨μ_5, e_6, h⟩ := gw_bnd h
    refine ⟨rfl, 0, 0, hcc, hss, ok_X11_unfold hS0 e_6 ?_⟩
    simp only [gt_nil, true_and, eq_self, Option.toList, List.cons_append, List.nil_append, Nat.add_zero, ka0_0, ka0_1, la0_1]
    exact B_X11_layEntry_46 hcc hss hK hS0 h hq
theorem ok_X11_layEntry {l : Launch} {x : gw_C} {d : Nat} {S : gw_S} {Q : Option Value → gw_S → gw_M → Prop} {v1 v2 v3 v4 : Int32} {a0 : Nat} {n0 : Nat} {μ : gw_M} {μ'} (hS0 : gw_sh S 11 a0) (h : F_X11_layEntry n0 a0 v1 v2 v3 v4 μ = some μ') (hq : Q none S μ') : gw_ok l x (d + 6) sgX11_layEntry 0 0 [.ref a0, .int v1, .int v2, .int v3, .int v4] S μ Q := by
  refine gw_ok_of stX11_layEntry (lv0 := [.ref a0, .int v1, .int v2, .int v3, .int v4]) (Nat.le_of_ble_eq_true rfl) rfl rfl ?_
  intro K hK
  have hcc : 0 ≤ 0 := Nat.zero_le _
  have hss : 0 ≤ 0 := Nat.zero_le _
  have ka0_0 : gw_kd S a0 = 11 := (hS0 0 _ rfl).1
  have ra0_0_0 : gw_rf S a0 0 = a0 + 1 := (hS0 0 _ rfl).2.2 (0, 1) (by decide)
  have ka0_1 : gw_kd S (a0 + 1) = 12 := (hS0 1 _ rfl).1
  have la0_1 : gw_ln S (a0 + 1) = 20813 := (hS0 1 _ rfl).2.1
  unfold F_X11_layEntry at h
  refine hK _ _ _ _ _ _ _ ?_
  rw [fdX11_layEntry_0]
  simp only [gt_nil, true_and, eq_self, gt_aload_n, gt_rfk, gw_nth, gt_get_r, gt_get_i, gt_get_z, gt_iload_n, gt_ink, gt_v0, gt_v1, gt_v2, gt_v3, gt_v4, gt_v5, gt_iastore, gt_iconst, gt_iadd, gt_icmp, gt_goto, bkX11_layEntry_0, ka0_0, ra0_0_0, ka0_1, la0_1]
  obtain ⟨r_1, e_3, h⟩ := gw_bnd h
  refine ⟨rfl, 0, 0, hcc, hss, ok_X11_entryAt hS0 e_3 ?_⟩
  simp only [gt_nil, true_and, eq_self, gt_iload_n, gt_ink, gw_nth, gt_iastore, gt_aload_n, gt_rfk, gt_get_r, gt_get_i, gt_get_z, gt_v0, gt_v1, gt_v2, gt_v3, gt_v4, gt_v5, gt_iconst, gt_iadd, gt_icmp, gt_goto, Option.toList, List.cons_append, List.nil_append, Nat.add_zero, ka0_0, ra0_0_0, ka0_1, la0_1]
  obtain ⟨c_5, h⟩ := gw_ife h
  refine ⟨c_5, ?_⟩
  obtain ⟨μ_6, hμ_6, h⟩ := gw_lt h
  try rw [← hμ_6]
  obtain ⟨r_7, e_9, h⟩ := gw_bnd h
  refine ⟨rfl, 0, 0, hcc, hss, ok_X11_entryAt hS0 e_9 ?_⟩
  simp only [gt_nil, true_and, eq_self, gt_iconst, gt_iadd, gt_iload_n, gt_ink, gw_nth, gt_icmp, gt_goto, Option.toList, List.cons_append, List.nil_append, Nat.add_zero, ka0_0, ra0_0_0, ka0_1, la0_1]
  refine ⟨fun c_11 => ?_, fun c_11 => ?_⟩
  · replace h := gw_ifp2 (gw_c2_ne _ _) h c_11
    refine hK _ _ _ _ _ _ _ ?_
    rw [fdX11_layEntry_33]
    simp only [gt_nil, true_and, eq_self, gt_iload, gt_ink, gw_nth, bkX11_layEntry_33, ka0_0, ra0_0_0, ka0_1, la0_1]
    exact B_X11_layEntry_35 hcc hss hK hS0 h hq
  · replace h := gw_ifn2 (gw_c2_ne _ _) h c_11
    exact B_X11_layEntry_35 hcc hss hK hS0 h hq
def F_X11_freeFrame_37 (rec2 : Int32 → gw_M → Option (Int32)) (rec12 : Int32 → Int32 → Int32 → gw_M → Option (Int32)) (n0 : Nat) (a0 : Nat) (v1 : Int32) (v3 : Int32) (s0 : Int32) (μ : gw_M) : Option (Int32) := gw_let (v3 + 1) (fun (w_1 : Int32) => rec12 v1 s0 w_1 μ)
def F_X11_freeFrame_36 (rec2 : Int32 → gw_M → Option (Int32)) (rec12 : Int32 → Int32 → Int32 → gw_M → Option (Int32)) (n0 : Nat) (a0 : Nat) (v1 : Int32) (v3 : Int32) (μ : gw_M) : Option (Int32) := F_X11_freeFrame_37 rec2 rec12 n0 a0 v1 v3 0 μ
def F_X11_freeFrame_12 (rec2 : Int32 → gw_M → Option (Int32)) (n0 : Nat) (a0 : Nat) : Nat → Int32 → Int32 → Int32 → gw_M → Option (Int32)
  | 0, _, _, _, _ => none
  | n + 1, v1, v2, v3, μ => (if 16 ≤ v3 then (if v2 = 0 then gw_let (v1 + 1) (fun (w_3 : Int32) => rec2 w_3 μ) else some v1) else (if v2 = 0 then F_X11_freeFrame_36 rec2 (F_X11_freeFrame_12 rec2 n0 a0 n) n0 a0 v1 v3 μ else (F_X11_toOf n0 a0 2 v3 μ).bind (fun (r_5 : Int32) => (if r_5 = v1 then F_X11_freeFrame_36 rec2 (F_X11_freeFrame_12 rec2 n0 a0 n) n0 a0 v1 v3 μ else F_X11_freeFrame_37 rec2 (F_X11_freeFrame_12 rec2 n0 a0 n) n0 a0 v1 v3 1 μ))))
def F_X11_freeFrame_2 (n0 : Nat) (a0 : Nat) : Nat → Int32 → gw_M → Option (Int32)
  | 0, _, _ => none
  | n + 1, v1, μ => (if 10 ≤ v1 then some (-1) else F_X11_freeFrame_12 (F_X11_freeFrame_2 n0 a0 n) n0 a0 n0 v1 1 0 μ)
def F_X11_freeFrame (n0 : Nat) (a0 : Nat) (μ : gw_M) : Option (Int32) := F_X11_freeFrame_2 n0 a0 n0 0 μ
theorem B_X11_freeFrame_37 {l : Launch} {x : gw_C} {d : Nat} {S : gw_S} {Q : Option Value → gw_S → gw_M → Prop} {K : Nat → gw_Kt} {mc ms cc ss : Nat} (hcc : cc ≤ mc) (hss : ss ≤ ms) (hK : gw_cl l x (d + 3) mc ms bsX11_freeFrame Q K) {a0 : Nat} (hS0 : gw_sh S 11 a0) {rec2 : Int32 → gw_M → Option (Int32)} (hrec2 : ∀ {v1} {u2 u3 : Value} {μ : gw_M} {r}, rec2 v1 μ = some r → Q (some (.int r)) S μ → K 2 [.ref a0, .int v1, u2, u3] [] S μ cc ss) {rec12 : Int32 → Int32 → Int32 → gw_M → Option (Int32)} (hrec12 : ∀ {v1 v2 v3} {μ : gw_M} {r}, rec12 v1 v2 v3 μ = some r → Q (some (.int r)) S μ → K 12 [.ref a0, .int v1, .int v2, .int v3] [] S μ cc ss) {n0 : Nat} {v1 v3 s0} {u2 : Value} {μ : gw_M} {r} (h : F_X11_freeFrame_37 rec2 rec12 n0 a0 v1 v3 s0 μ = some r) (hq : Q (some (.int r)) S μ) : K 37 [.ref a0, .int v1, u2, .int v3] [.int s0] S μ cc ss := by
  unfold F_X11_freeFrame_37 at h
  refine hK _ _ _ _ _ _ _ ?_
  rw [fdX11_freeFrame_37]
  simp only [gt_nil, true_and, eq_self, gt_istore_n, gw_set, gt_iinc, gt_ink, gw_nth, gt_goto, bkX11_freeFrame_37]
  obtain ⟨w_1, hw_1, h⟩ := gw_lt h
  try rw [← hw_1]
  exact hrec12 h hq
theorem B_X11_freeFrame_36 {l : Launch} {x : gw_C} {d : Nat} {S : gw_S} {Q : Option Value → gw_S → gw_M → Prop} {K : Nat → gw_Kt} {mc ms cc ss : Nat} (hcc : cc ≤ mc) (hss : ss ≤ ms) (hK : gw_cl l x (d + 3) mc ms bsX11_freeFrame Q K) {a0 : Nat} (hS0 : gw_sh S 11 a0) {rec2 : Int32 → gw_M → Option (Int32)} (hrec2 : ∀ {v1} {u2 u3 : Value} {μ : gw_M} {r}, rec2 v1 μ = some r → Q (some (.int r)) S μ → K 2 [.ref a0, .int v1, u2, u3] [] S μ cc ss) {rec12 : Int32 → Int32 → Int32 → gw_M → Option (Int32)} (hrec12 : ∀ {v1 v2 v3} {μ : gw_M} {r}, rec12 v1 v2 v3 μ = some r → Q (some (.int r)) S μ → K 12 [.ref a0, .int v1, .int v2, .int v3] [] S μ cc ss) {n0 : Nat} {v1 v3} {u2 : Value} {μ : gw_M} {r} (h : F_X11_freeFrame_36 rec2 rec12 n0 a0 v1 v3 μ = some r) (hq : Q (some (.int r)) S μ) : K 36 [.ref a0, .int v1, u2, .int v3] [] S μ cc ss := by
  unfold F_X11_freeFrame_36 at h
  refine hK _ _ _ _ _ _ _ ?_
  rw [fdX11_freeFrame_36]
  simp only [gt_nil, true_and, eq_self, gt_iconst, bkX11_freeFrame_36]
  exact B_X11_freeFrame_37 hcc hss hK hS0 hrec2 hrec12 h hq
theorem B_X11_freeFrame_12 {l : Launch} {x : gw_C} {d : Nat} {S : gw_S} {Q : Option Value → gw_S → gw_M → Prop} {K : Nat → gw_Kt} {mc ms cc ss : Nat} (hcc : cc ≤ mc) (hss : ss ≤ ms) (hK : gw_cl l x (d + 3) mc ms bsX11_freeFrame Q K) {a0 : Nat} (hS0 : gw_sh S 11 a0) {rec2 : Int32 → gw_M → Option (Int32)} (hrec2 : ∀ {v1} {u2 u3 : Value} {μ : gw_M} {r}, rec2 v1 μ = some r → Q (some (.int r)) S μ → K 2 [.ref a0, .int v1, u2, u3] [] S μ cc ss) {n0 : Nat} : ∀ {n : Nat} {v1 v2 v3} {μ : gw_M} {r}, F_X11_freeFrame_12 rec2 n0 a0 n v1 v2 v3 μ = some r → Q (some (.int r)) S μ → K 12 [.ref a0, .int v1, .int v2, .int v3] [] S μ cc ss := by
  have ka0_0 : gw_kd S a0 = 11 := (hS0 0 _ rfl).1
  intro n
  induction n with
  | zero => intro v1 v2 v3 μ r h hq; simp [F_X11_freeFrame_12] at h
  | succ n ih =>
    intro v1 v2 v3 μ r h hq
    simp only [F_X11_freeFrame_12] at h
    refine hK _ _ _ _ _ _ _ ?_
    rw [fdX11_freeFrame_12]
    simp only [gt_nil, true_and, eq_self, gt_iload_n, gt_ink, gw_nth, gt_bipush, gt_icmp, gt_if, gt_aload_n, gt_rfk, gt_iconst, gt_v0, gt_v1, gt_v2, gt_v3, gt_v4, gt_v5, gt_goto, bkX11_freeFrame_12, ka0_0]
    refine ⟨fun c_1 => ?_, fun c_1 => ?_⟩
    · replace h := gw_ifp2 (gw_c2_ge _ _) h c_1
      refine hK _ _ _ _ _ _ _ ?_
      rw [fdX11_freeFrame_44]
      simp only [gt_nil, true_and, eq_self, gt_iload_n, gt_ink, gw_nth, gt_if, gt_iret, gt_retz, bkX11_freeFrame_44, ka0_0]
      refine ⟨fun c_2 => ?_, fun c_2 => ?_⟩
      · replace h := gw_ifp h c_2
        refine hK _ _ _ _ _ _ _ ?_
        rw [fdX11_freeFrame_50]
        simp only [gt_nil, true_and, eq_self, gt_iinc, gt_ink, gw_nth, gw_set, gt_goto, bkX11_freeFrame_50, ka0_0]
        obtain ⟨w_3, hw_3, h⟩ := gw_lt h
        try rw [← hw_3]
        exact hrec2 h hq
      · replace h := gw_ifn h c_2
        obtain rfl := gw_inj1 h
        exact ⟨hcc, hss, hq⟩
    · replace h := gw_ifn2 (gw_c2_ge _ _) h c_1
      refine ⟨fun c_4 => ?_, fun c_4 => ?_⟩
      · replace h := gw_ifp h c_4
        exact B_X11_freeFrame_36 hcc hss hK hS0 hrec2 ih h hq
      · replace h := gw_ifn h c_4
        obtain ⟨r_5, e_7, h⟩ := gw_bnd h
        refine ⟨rfl, 0, 0, hcc, hss, ok_X11_toOf hS0 e_7 ?_⟩
        simp only [gt_nil, true_and, eq_self, gt_iload_n, gt_ink, gw_nth, gt_icmp, gt_iconst, gt_goto, Option.toList, List.cons_append, List.nil_append, Nat.add_zero, ka0_0]
        refine ⟨fun c_9 => ?_, fun c_9 => ?_⟩
        · replace h := gw_ifp2 (gw_c2_eq _ _) h c_9
          exact B_X11_freeFrame_36 hcc hss hK hS0 hrec2 ih h hq
        · replace h := gw_ifn2 (gw_c2_eq _ _) h c_9
          exact B_X11_freeFrame_37 hcc hss hK hS0 hrec2 ih h hq
theorem B_X11_freeFrame_2 {l : Launch} {x : gw_C} {d : Nat} {S : gw_S} {Q : Option Value → gw_S → gw_M → Prop} {K : Nat → gw_Kt} {mc ms cc ss : Nat} (hcc : cc ≤ mc) (hss : ss ≤ ms) (hK : gw_cl l x (d + 3) mc ms bsX11_freeFrame Q K) {a0 : Nat} (hS0 : gw_sh S 11 a0) {n0 : Nat} : ∀ {n : Nat} {v1} {u2 u3 : Value} {μ : gw_M} {r}, F_X11_freeFrame_2 n0 a0 n v1 μ = some r → Q (some (.int r)) S μ → K 2 [.ref a0, .int v1, u2, u3] [] S μ cc ss := by
  intro n
  induction n with
  | zero => intro v1 u2 u3 μ r h hq; simp [F_X11_freeFrame_2] at h
  | succ n ih =>
    intro v1 u2 u3 μ r h hq
    simp only [F_X11_freeFrame_2] at h
    refine hK _ _ _ _ _ _ _ ?_
    rw [fdX11_freeFrame_2]
    simp only [gt_nil, true_and, eq_self, gt_iload_n, gt_ink, gw_nth, gt_bipush, gt_icmp, gt_iconst, gt_istore_n, gw_set, bkX11_freeFrame_2]
    refine ⟨fun c_1 => ?_, fun c_1 => ?_⟩
    · replace h := gw_ifp2 (gw_c2_ge _ _) h c_1
      refine hK _ _ _ _ _ _ _ ?_
      rw [fdX11_freeFrame_56]
      simp only [gt_nil, true_and, eq_self, gt_iconst, gt_iret, gt_retz, bkX11_freeFrame_56]
      obtain rfl := gw_inj1 h
      exact ⟨hcc, hss, hq⟩
    · replace h := gw_ifn2 (gw_c2_ge _ _) h c_1
      exact B_X11_freeFrame_12 hcc hss hK hS0 ih h hq
theorem ok_X11_freeFrame {l : Launch} {x : gw_C} {d : Nat} {S : gw_S} {Q : Option Value → gw_S → gw_M → Prop} {a0 : Nat} {n0 : Nat} {μ : gw_M} {r} (hS0 : gw_sh S 11 a0) (h : F_X11_freeFrame n0 a0 μ = some r) (hq : Q (some (.int r)) S μ) : gw_ok l x (d + 4) sgX11_freeFrame 0 0 [.ref a0] S μ Q := by
  refine gw_ok_of stX11_freeFrame (lv0 := [.ref a0, .retAddr 0, .retAddr 0, .retAddr 0]) (Nat.le_of_ble_eq_true rfl) rfl rfl ?_
  intro K hK
  have hcc : 0 ≤ 0 := Nat.zero_le _
  have hss : 0 ≤ 0 := Nat.zero_le _
  unfold F_X11_freeFrame at h
  refine hK _ _ _ _ _ _ _ ?_
  rw [fdX11_freeFrame_0]
  simp only [gt_nil, true_and, eq_self, gt_iconst, gt_istore_n, gw_set, bkX11_freeFrame_0]
  exact B_X11_freeFrame_2 hcc hss hK hS0 h hq
def F_X11_swapOut (n0 : Nat) (a0 : Nat) (μ : gw_M) : Option (gw_M) := gw_let ((μ (a0 + 1) 738)) (fun (w_1 : Int32) => (F_X11_toOf n0 a0 2 w_1 μ).bind (fun (r_2 : Int32) => (if 0 ≤ ((802 : Int32) + r_2) ∧ ((802 : Int32) + r_2).toNatClampNeg < 20813 then (if 0 ≤ ((812 : Int32) + w_1) ∧ ((812 : Int32) + w_1).toNatClampNeg < 20813 then gw_let (gw_up μ (a0 + 1) ((812 : Int32) + w_1).toNatClampNeg (μ (a0 + 1) ((802 : Int32) + r_2).toNatClampNeg)) (fun (μ_8 : gw_M) => gw_let (gw_up μ_8 (a0 + 1) 8 ((μ_8 (a0 + 1) 8) + (1 : Int32))) (fun (μ_9 : gw_M) => (F_X11_layEntry n0 a0 2 w_1 (-1) 0 μ_9).bind (fun (μ_11 : gw_M) => some μ_11))) else none) else none)))
theorem ok_X11_swapOut {l : Launch} {x : gw_C} {d : Nat} {S : gw_S} {Q : Option Value → gw_S → gw_M → Prop} {a0 : Nat} {n0 : Nat} {μ : gw_M} {μ'} (hS0 : gw_sh S 11 a0) (h : F_X11_swapOut n0 a0 μ = some μ') (hq : Q none S μ') : gw_ok l x (d + 7) sgX11_swapOut 0 0 [.ref a0] S μ Q := by
  refine gw_ok_of stX11_swapOut (lv0 := [.ref a0, .retAddr 0]) (Nat.le_of_ble_eq_true rfl) rfl rfl ?_
  intro K hK
  have hcc : 0 ≤ 0 := Nat.zero_le _
  have hss : 0 ≤ 0 := Nat.zero_le _
  have ka0_0 : gw_kd S a0 = 11 := (hS0 0 _ rfl).1
  have ra0_0_0 : gw_rf S a0 0 = a0 + 1 := (hS0 0 _ rfl).2.2 (0, 1) (by decide)
  have ka0_1 : gw_kd S (a0 + 1) = 12 := (hS0 1 _ rfl).1
  have la0_1 : gw_ln S (a0 + 1) = 20813 := (hS0 1 _ rfl).2.1
  unfold F_X11_swapOut at h
  refine hK _ _ _ _ _ _ _ ?_
  rw [fdX11_swapOut_0]
  simp only [gt_nil, true_and, eq_self, gt_aload_n, gt_rfk, gw_nth, gt_get_r, gt_get_i, gt_get_z, gt_sipush, gt_iaload, gt_istore_n, gw_set, gt_iload_n, gt_ink, gt_iadd, gt_iconst, gt_v0, gt_v1, gt_v2, gt_v3, gt_v4, gt_v5, gt_iastore, gt_bipush, gt_dup2, gt_vret, bkX11_swapOut_0, ka0_0, ra0_0_0, ka0_1, la0_1, (show Int32.toNatClampNeg 738 = 738 from rfl), (show Int32.toNatClampNeg 8 = 8 from rfl)]
  refine ⟨(⟨by decide, by decide⟩ : gw_in 738 20813), ?_⟩
  obtain ⟨w_1, hw_1, h⟩ := gw_lt h
  try rw [← hw_1]
  obtain ⟨r_2, e_4, h⟩ := gw_bnd h
  refine ⟨rfl, 0, 0, hcc, hss, ok_X11_toOf hS0 e_4 ?_⟩
  simp only [gt_nil, true_and, eq_self, gt_iadd, gt_iaload, gt_iastore, gt_aload_n, gt_rfk, gw_nth, gt_get_r, gt_get_i, gt_get_z, gt_bipush, gt_dup2, gt_iconst, gt_iload_n, gt_ink, gt_v0, gt_v1, gt_v2, gt_v3, gt_v4, gt_v5, gt_vret, Option.toList, List.cons_append, List.nil_append, Nat.add_zero, ka0_0, ra0_0_0, ka0_1, la0_1, (show Int32.toNatClampNeg 738 = 738 from rfl), (show Int32.toNatClampNeg 8 = 8 from rfl)]
  obtain ⟨c_6, h⟩ := gw_ife h
  refine ⟨c_6, ?_⟩
  obtain ⟨c_7, h⟩ := gw_ife h
  refine ⟨c_7, ?_⟩
  obtain ⟨μ_8, hμ_8, h⟩ := gw_lt h
  try rw [← hμ_8]
  refine ⟨(⟨by decide, by decide⟩ : gw_in 8 20813), ?_⟩
  refine ⟨(⟨by decide, by decide⟩ : gw_in 8 20813), ?_⟩
  obtain ⟨μ_9, hμ_9, h⟩ := gw_lt h
  try rw [← hμ_9]
  obtain ⟨μ_11, e_12, h⟩ := gw_bnd h
  refine ⟨rfl, 0, 0, hcc, hss, ok_X11_layEntry hS0 e_12 ?_⟩
  simp only [gt_nil, true_and, eq_self, gt_vret, Option.toList, List.cons_append, List.nil_append, Nat.add_zero, ka0_0, ra0_0_0, ka0_1, la0_1, (show Int32.toNatClampNeg 738 = 738 from rfl), (show Int32.toNatClampNeg 8 = 8 from rfl)]
  obtain rfl := gw_inj1 h
  exact ⟨hcc, hss, hq⟩
def F_X11_give_66 (n0 : Nat) (a0 : Nat) (v1 : Int32) (v2 : Int32) (s1 : Int32) (s2 : Int32) (μ : gw_M) : Option (gw_M) := (if 0 ≤ s1 ∧ s1.toNatClampNeg < 20813 then gw_let (gw_up μ (a0 + 1) s1.toNatClampNeg s2) (fun (μ_2 : gw_M) => (if 0 ≤ ((812 : Int32) + v1) ∧ ((812 : Int32) + v1).toNatClampNeg < 20813 then gw_let (gw_up μ_2 (a0 + 1) ((812 : Int32) + v1).toNatClampNeg (-1)) (fun (μ_4 : gw_M) => gw_let (gw_up μ_4 (a0 + 1) 21 ((μ_4 (a0 + 1) 21) ||| ((1 : Int32) <<< (v2 &&& 31)))) (fun (μ_5 : gw_M) => some μ_5)) else none)) else none)
def F_X11_give_0 (n0 : Nat) (a0 : Nat) : Nat → Int32 → gw_M → Option (gw_M)
  | 0, _, _ => none
  | n + 1, v1, μ => (F_X11_freeFrame n0 a0 μ).bind (fun (r_1 : Int32) => (if ¬ r_1 = (-1) then (F_X11_freeFrame n0 a0 μ).bind (fun (r_6 : Int32) => (F_X11_layEntry n0 a0 2 v1 r_6 7 μ).bind (fun (μ_11 : gw_M) => (if 0 ≤ ((812 : Int32) + v1) ∧ ((812 : Int32) + v1).toNatClampNeg < 20813 then (if ¬ (μ_11 (a0 + 1) ((812 : Int32) + v1).toNatClampNeg) = (-1) then (if 0 ≤ ((812 : Int32) + v1) ∧ ((812 : Int32) + v1).toNatClampNeg < 20813 then F_X11_give_66 n0 a0 v1 r_6 ((802 : Int32) + r_6) (μ_11 (a0 + 1) ((812 : Int32) + v1).toNatClampNeg) μ_11 else none) else F_X11_give_66 n0 a0 v1 r_6 ((802 : Int32) + r_6) 0 μ_11) else none))) else (F_X11_swapOut n0 a0 μ).bind (fun (μ_18 : gw_M) => F_X11_give_0 n0 a0 n v1 μ_18)))
def F_X11_give (n0 : Nat) (a0 : Nat) (v1 : Int32) (μ : gw_M) : Option (gw_M) := F_X11_give_0 n0 a0 n0 v1 μ
theorem B_X11_give_66 {l : Launch} {x : gw_C} {d : Nat} {S : gw_S} {Q : Option Value → gw_S → gw_M → Prop} {K : Nat → gw_Kt} {mc ms cc ss : Nat} (hcc : cc ≤ mc) (hss : ss ≤ ms) (hK : gw_cl l x (d + 7) mc ms bsX11_give Q K) {a0 : Nat} (hS0 : gw_sh S 11 a0) {n0 : Nat} {v1 v2 s1 s2} {μ : gw_M} {μ'} (h : F_X11_give_66 n0 a0 v1 v2 s1 s2 μ = some μ') (hq : Q none S μ') : K 66 [.ref a0, .int v1, .int v2] [.int s2, .int s1, .ref (a0 + 1)] S μ cc ss := by
  have ka0_0 : gw_kd S a0 = 11 := (hS0 0 _ rfl).1
  have ra0_0_0 : gw_rf S a0 0 = a0 + 1 := (hS0 0 _ rfl).2.2 (0, 1) (by decide)
  have ka0_1 : gw_kd S (a0 + 1) = 12 := (hS0 1 _ rfl).1
  have la0_1 : gw_ln S (a0 + 1) = 20813 := (hS0 1 _ rfl).2.1
  unfold F_X11_give_66 at h
  refine hK _ _ _ _ _ _ _ ?_
  rw [fdX11_give_66]
  simp only [gt_nil, true_and, eq_self, gt_iastore, gt_aload_n, gt_rfk, gw_nth, gt_get_r, gt_get_i, gt_get_z, gt_sipush, gt_iload_n, gt_ink, gt_iadd, gt_iconst, gt_bipush, gt_dup2, gt_iaload, gt_ishl, gt_ior, gt_vret, bkX11_give_66, ka0_0, ra0_0_0, ka0_1, la0_1, (show Int32.toNatClampNeg 21 = 21 from rfl)]
  obtain ⟨c_1, h⟩ := gw_ife h
  refine ⟨c_1, ?_⟩
  obtain ⟨μ_2, hμ_2, h⟩ := gw_lt h
  try rw [← hμ_2]
  obtain ⟨c_3, h⟩ := gw_ife h
  refine ⟨c_3, ?_⟩
  obtain ⟨μ_4, hμ_4, h⟩ := gw_lt h
  try rw [← hμ_4]
  refine ⟨(⟨by decide, by decide⟩ : gw_in 21 20813), ?_⟩
  refine ⟨(⟨by decide, by decide⟩ : gw_in 21 20813), ?_⟩
  obtain ⟨μ_5, hμ_5, h⟩ := gw_lt h
  try rw [← hμ_5]
  obtain rfl := gw_inj1 h
  exact ⟨hcc, hss, hq⟩
theorem B_X11_give_0 {l : Launch} {x : gw_C} {d : Nat} {S : gw_S} {Q : Option Value → gw_S → gw_M → Prop} {K : Nat → gw_Kt} {mc ms cc ss : Nat} (hcc : cc ≤ mc) (hss : ss ≤ ms) (hK : gw_cl l x (d + 7) mc ms bsX11_give Q K) {a0 : Nat} (hS0 : gw_sh S 11 a0) {n0 : Nat} : ∀ {n : Nat} {v1} {u2 : Value} {μ : gw_M} {μ'}, F_X11_give_0 n0 a0 n v1 μ = some μ' → Q none S μ' → K 0 [.ref a0, .int v1, u2] [] S μ cc ss := by
  have ka0_0 : gw_kd S a0 = 11 := (hS0 0 _ rfl).1
  have ra0_0_0 : gw_rf S a0 0 = a0 + 1 := (hS0 0 _ rfl).2.2 (0, 1) (by decide)
  have ka0_1 : gw_kd S (a0 + 1) = 12 := (hS0 1 _ rfl).1
  have la0_1 : gw_ln S (a0 + 1) = 20813 := (hS0 1 _ rfl).2.1
  intro n
  induction n with
  | zero => intro v1 u2 μ μ' h hq; simp [F_X11_give_0] at h
  | succ n ih =>
    intro v1 u2 μ μ' h hq
    simp only [F_X11_give_0] at h
    refine hK _ _ _ _ _ _ _ ?_
    rw [fdX11_give_0]
    simp only [gt_nil, true_and, eq_self, gt_aload_n, gt_rfk, gw_nth, gt_v0, gt_v1, gt_v2, gt_v3, gt_v4, gt_v5, gt_iconst, gt_icmp, gt_goto, bkX11_give_0, ka0_0, ra0_0_0, ka0_1, la0_1]
    obtain ⟨r_1, e_3, h⟩ := gw_bnd h
    refine ⟨rfl, 0, 0, hcc, hss, ok_X11_freeFrame hS0 e_3 ?_⟩
    simp only [gt_nil, true_and, eq_self, gt_iconst, gt_icmp, gt_aload_n, gt_rfk, gw_nth, gt_v0, gt_v1, gt_v2, gt_v3, gt_v4, gt_v5, gt_goto, Option.toList, List.cons_append, List.nil_append, Nat.add_zero, ka0_0, ra0_0_0, ka0_1, la0_1]
    refine ⟨fun c_5 => ?_, fun c_5 => ?_⟩
    · replace h := gw_ifp2 (gw_c2_ne _ _) h c_5
      refine hK _ _ _ _ _ _ _ ?_
      rw [fdX11_give_15]
      simp only [gt_nil, true_and, eq_self, gt_aload_n, gt_rfk, gw_nth, gt_v0, gt_v1, gt_v2, gt_v3, gt_v4, gt_v5, gt_istore_n, gw_set, gt_iconst, gt_iload_n, gt_ink, gt_bipush, gt_get_r, gt_get_i, gt_get_z, gt_sipush, gt_iadd, gt_iaload, gt_icmp, gt_goto, bkX11_give_15, ka0_0, ra0_0_0, ka0_1, la0_1]
      obtain ⟨r_6, e_8, h⟩ := gw_bnd h
      refine ⟨rfl, 0, 0, hcc, hss, ok_X11_freeFrame hS0 e_8 ?_⟩
      simp only [gt_nil, true_and, eq_self, gt_istore_n, gw_set, gt_aload_n, gt_rfk, gw_nth, gt_iconst, gt_iload_n, gt_ink, gt_bipush, gt_v0, gt_v1, gt_v2, gt_v3, gt_v4, gt_v5, gt_get_r, gt_get_i, gt_get_z, gt_sipush, gt_iadd, gt_iaload, gt_icmp, gt_goto, Option.toList, List.cons_append, List.nil_append, Nat.add_zero, ka0_0, ra0_0_0, ka0_1, la0_1]
      obtain ⟨μ_11, e_12, h⟩ := gw_bnd h
      refine ⟨rfl, 0, 0, hcc, hss, ok_X11_layEntry hS0 e_12 ?_⟩
      simp only [gt_nil, true_and, eq_self, gt_aload_n, gt_rfk, gw_nth, gt_get_r, gt_get_i, gt_get_z, gt_sipush, gt_iload_n, gt_ink, gt_iadd, gt_iaload, gt_iconst, gt_icmp, gt_goto, Option.toList, List.cons_append, List.nil_append, Nat.add_zero, ka0_0, ra0_0_0, ka0_1, la0_1]
      obtain ⟨c_14, h⟩ := gw_ife h
      refine ⟨c_14, ?_⟩
      refine ⟨fun c_15 => ?_, fun c_15 => ?_⟩
      · replace h := gw_ifp2 (gw_c2_ne _ _) h c_15
        refine hK _ _ _ _ _ _ _ ?_
        rw [fdX11_give_56]
        simp only [gt_nil, true_and, eq_self, gt_aload_n, gt_rfk, gw_nth, gt_get_r, gt_get_i, gt_get_z, gt_sipush, gt_iload_n, gt_ink, gt_iadd, gt_iaload, bkX11_give_56, ka0_0, ra0_0_0, ka0_1, la0_1]
        obtain ⟨c_16, h⟩ := gw_ife h
        refine ⟨c_16, ?_⟩
        exact B_X11_give_66 hcc hss hK hS0 h hq
      · replace h := gw_ifn2 (gw_c2_ne _ _) h c_15
        exact B_X11_give_66 hcc hss hK hS0 h hq
    · replace h := gw_ifn2 (gw_c2_ne _ _) h c_5
      obtain ⟨μ_18, e_19, h⟩ := gw_bnd h
      refine ⟨rfl, 0, 0, hcc, hss, ok_X11_swapOut hS0 e_19 ?_⟩
      simp only [gt_nil, true_and, eq_self, gt_goto, Option.toList, List.cons_append, List.nil_append, Nat.add_zero, ka0_0, ra0_0_0, ka0_1, la0_1]
      exact ih h hq
theorem ok_X11_give {l : Launch} {x : gw_C} {d : Nat} {S : gw_S} {Q : Option Value → gw_S → gw_M → Prop} {v1 : Int32} {a0 : Nat} {n0 : Nat} {μ : gw_M} {μ'} (hS0 : gw_sh S 11 a0) (h : F_X11_give n0 a0 v1 μ = some μ') (hq : Q none S μ') : gw_ok l x (d + 8) sgX11_give 0 0 [.ref a0, .int v1] S μ Q := by
  refine gw_ok_of stX11_give (lv0 := [.ref a0, .int v1, .retAddr 0]) (Nat.le_of_ble_eq_true rfl) rfl rfl ?_
  intro K hK
  have hcc : 0 ≤ 0 := Nat.zero_le _
  have hss : 0 ≤ 0 := Nat.zero_le _
  unfold F_X11_give at h
  exact B_X11_give_0 hcc hss hK hS0 h hq
def F_X11_leadTo_28 (rec4 : Int32 → Int32 → Int32 → gw_M → Option (Int32)) (n0 : Nat) (a0 : Nat) (v1 : Int32) (v3 : Int32) (s0 : Int32) (s1 : Int32) (μ : gw_M) : Option (Int32) := gw_let ((s0 ||| s1)) (fun (w_1 : Int32) => gw_let (v3 + 1) (fun (w_2 : Int32) => rec4 v1 w_1 w_2 μ))
def F_X11_leadTo_4 (n0 : Nat) (a0 : Nat) : Nat → Int32 → Int32 → Int32 → gw_M → Option (Int32)
  | 0, _, _, _, _ => none
  | n + 1, v1, v2, v3, μ => (if 16 ≤ v3 then some v2 else (F_X11_toOf n0 a0 2 v3 μ).bind (fun (r_2 : Int32) => (if ¬ r_2 = v1 then F_X11_leadTo_28 (F_X11_leadTo_4 n0 a0 n) n0 a0 v1 v3 v2 0 μ else F_X11_leadTo_28 (F_X11_leadTo_4 n0 a0 n) n0 a0 v1 v3 v2 ((1 : Int32) <<< (v3 &&& 31)) μ)))
def F_X11_leadTo (n0 : Nat) (a0 : Nat) (v1 : Int32) (μ : gw_M) : Option (Int32) := F_X11_leadTo_4 n0 a0 n0 v1 0 0 μ
theorem B_X11_leadTo_28 {l : Launch} {x : gw_C} {d : Nat} {S : gw_S} {Q : Option Value → gw_S → gw_M → Prop} {K : Nat → gw_Kt} {mc ms cc ss : Nat} (hcc : cc ≤ mc) (hss : ss ≤ ms) (hK : gw_cl l x (d + 3) mc ms bsX11_leadTo Q K) {a0 : Nat} (hS0 : gw_sh S 11 a0) {rec4 : Int32 → Int32 → Int32 → gw_M → Option (Int32)} (hrec4 : ∀ {v1 v2 v3} {μ : gw_M} {r}, rec4 v1 v2 v3 μ = some r → Q (some (.int r)) S μ → K 4 [.ref a0, .int v1, .int v2, .int v3] [] S μ cc ss) {n0 : Nat} {v1 v3 s0 s1} {u2 : Value} {μ : gw_M} {r} (h : F_X11_leadTo_28 rec4 n0 a0 v1 v3 s0 s1 μ = some r) (hq : Q (some (.int r)) S μ) : K 28 [.ref a0, .int v1, u2, .int v3] [.int s1, .int s0] S μ cc ss := by
  unfold F_X11_leadTo_28 at h
  refine hK _ _ _ _ _ _ _ ?_
  rw [fdX11_leadTo_28]
  simp only [gt_nil, true_and, eq_self, gt_ior, gt_istore_n, gw_set, gt_iinc, gt_ink, gw_nth, gt_goto, bkX11_leadTo_28]
  obtain ⟨w_1, hw_1, h⟩ := gw_lt h
  try rw [← hw_1]
  obtain ⟨w_2, hw_2, h⟩ := gw_lt h
  try rw [← hw_2]
  exact hrec4 h hq
theorem B_X11_leadTo_4 {l : Launch} {x : gw_C} {d : Nat} {S : gw_S} {Q : Option Value → gw_S → gw_M → Prop} {K : Nat → gw_Kt} {mc ms cc ss : Nat} (hcc : cc ≤ mc) (hss : ss ≤ ms) (hK : gw_cl l x (d + 3) mc ms bsX11_leadTo Q K) {a0 : Nat} (hS0 : gw_sh S 11 a0) {n0 : Nat} : ∀ {n : Nat} {v1 v2 v3} {μ : gw_M} {r}, F_X11_leadTo_4 n0 a0 n v1 v2 v3 μ = some r → Q (some (.int r)) S μ → K 4 [.ref a0, .int v1, .int v2, .int v3] [] S μ cc ss := by
  have ka0_0 : gw_kd S a0 = 11 := (hS0 0 _ rfl).1
  intro n
  induction n with
  | zero => intro v1 v2 v3 μ r h hq; simp [F_X11_leadTo_4] at h
  | succ n ih =>
    intro v1 v2 v3 μ r h hq
    simp only [F_X11_leadTo_4] at h
    refine hK _ _ _ _ _ _ _ ?_
    rw [fdX11_leadTo_4]
    simp only [gt_nil, true_and, eq_self, gt_iload_n, gt_ink, gw_nth, gt_bipush, gt_icmp, gt_aload_n, gt_rfk, gt_iconst, gt_v0, gt_v1, gt_v2, gt_v3, gt_v4, gt_v5, gt_ishl, gt_goto, bkX11_leadTo_4, ka0_0]
    refine ⟨fun c_1 => ?_, fun c_1 => ?_⟩
    · replace h := gw_ifp2 (gw_c2_ge _ _) h c_1
      refine hK _ _ _ _ _ _ _ ?_
      rw [fdX11_leadTo_36]
      simp only [gt_nil, true_and, eq_self, gt_iload_n, gt_ink, gw_nth, gt_iret, gt_retz, bkX11_leadTo_36, ka0_0]
      obtain rfl := gw_inj1 h
      exact ⟨hcc, hss, hq⟩
    · replace h := gw_ifn2 (gw_c2_ge _ _) h c_1
      obtain ⟨r_2, e_4, h⟩ := gw_bnd h
      refine ⟨rfl, 0, 0, hcc, hss, ok_X11_toOf hS0 e_4 ?_⟩
      simp only [gt_nil, true_and, eq_self, gt_iload_n, gt_ink, gw_nth, gt_icmp, gt_iconst, gt_ishl, gt_goto, Option.toList, List.cons_append, List.nil_append, Nat.add_zero, ka0_0]
      refine ⟨fun c_6 => ?_, fun c_6 => ?_⟩
      · replace h := gw_ifp2 (gw_c2_ne _ _) h c_6
        refine hK _ _ _ _ _ _ _ ?_
        rw [fdX11_leadTo_27]
        simp only [gt_nil, true_and, eq_self, gt_iconst, bkX11_leadTo_27, ka0_0]
        exact B_X11_leadTo_28 hcc hss hK hS0 ih h hq
      · replace h := gw_ifn2 (gw_c2_ne _ _) h c_6
        exact B_X11_leadTo_28 hcc hss hK hS0 ih h hq
theorem ok_X11_leadTo {l : Launch} {x : gw_C} {d : Nat} {S : gw_S} {Q : Option Value → gw_S → gw_M → Prop} {v1 : Int32} {a0 : Nat} {n0 : Nat} {μ : gw_M} {r} (hS0 : gw_sh S 11 a0) (h : F_X11_leadTo n0 a0 v1 μ = some r) (hq : Q (some (.int r)) S μ) : gw_ok l x (d + 4) sgX11_leadTo 0 0 [.ref a0, .int v1] S μ Q := by
  refine gw_ok_of stX11_leadTo (lv0 := [.ref a0, .int v1, .retAddr 0, .retAddr 0]) (Nat.le_of_ble_eq_true rfl) rfl rfl ?_
  intro K hK
  have hcc : 0 ≤ 0 := Nat.zero_le _
  have hss : 0 ≤ 0 := Nat.zero_le _
  unfold F_X11_leadTo at h
  refine hK _ _ _ _ _ _ _ ?_
  rw [fdX11_leadTo_0]
  simp only [gt_nil, true_and, eq_self, gt_iconst, gt_istore_n, gw_set, bkX11_leadTo_0]
  exact B_X11_leadTo_4 hcc hss hK hS0 h hq
def F_X11_likeOf_53 (rec14 : Int32 → Int32 → gw_M → Option (Int32)) (n0 : Nat) (a0 : Nat) (v1 : Int32) (v2 : Int32) (μ : gw_M) : Option (Int32) := gw_let (v2 + 1) (fun (w_1 : Int32) => rec14 v1 w_1 μ)
def F_X11_likeOf_14 (n0 : Nat) (a0 : Nat) : Nat → Int32 → Int32 → gw_M → Option (Int32)
  | 0, _, _, _ => none
  | n + 1, v1, v2, μ => (if 10 ≤ v2 then some (-1) else (F_X11_leadTo n0 a0 v2 μ).bind (fun (r_2 : Int32) => (if r_2 = 0 then F_X11_likeOf_53 (F_X11_likeOf_14 n0 a0 n) n0 a0 v1 v2 μ else (if 0 ≤ ((802 : Int32) + v2) ∧ ((802 : Int32) + v2).toNatClampNeg < 20813 then (if 0 ≤ ((802 : Int32) + v1) ∧ ((802 : Int32) + v1).toNatClampNeg < 20813 then (if ¬ (μ (a0 + 1) ((802 : Int32) + v2).toNatClampNeg) = (μ (a0 + 1) ((802 : Int32) + v1).toNatClampNeg) then F_X11_likeOf_53 (F_X11_likeOf_14 n0 a0 n) n0 a0 v1 v2 μ else some v2) else none) else none))))
def F_X11_likeOf (n0 : Nat) (a0 : Nat) (v1 : Int32) (μ : gw_M) : Option (Int32) := (F_X11_leadTo n0 a0 v1 μ).bind (fun (r_1 : Int32) => (if ¬ r_1 = 0 then gw_let ((v1 + (1 : Int32))) (fun (w_6 : Int32) => F_X11_likeOf_14 n0 a0 n0 v1 w_6 μ) else some (-1)))
theorem B_X11_likeOf_53 {l : Launch} {x : gw_C} {d : Nat} {S : gw_S} {Q : Option Value → gw_S → gw_M → Prop} {K : Nat → gw_Kt} {mc ms cc ss : Nat} (hcc : cc ≤ mc) (hss : ss ≤ ms) (hK : gw_cl l x (d + 4) mc ms bsX11_likeOf Q K) {a0 : Nat} (hS0 : gw_sh S 11 a0) {rec14 : Int32 → Int32 → gw_M → Option (Int32)} (hrec14 : ∀ {v1 v2} {μ : gw_M} {r}, rec14 v1 v2 μ = some r → Q (some (.int r)) S μ → K 14 [.ref a0, .int v1, .int v2] [] S μ cc ss) {n0 : Nat} {v1 v2} {μ : gw_M} {r} (h : F_X11_likeOf_53 rec14 n0 a0 v1 v2 μ = some r) (hq : Q (some (.int r)) S μ) : K 53 [.ref a0, .int v1, .int v2] [] S μ cc ss := by
  unfold F_X11_likeOf_53 at h
  refine hK _ _ _ _ _ _ _ ?_
  rw [fdX11_likeOf_53]
  simp only [gt_nil, true_and, eq_self, gt_iinc, gt_ink, gw_nth, gw_set, gt_goto, bkX11_likeOf_53]
  obtain ⟨w_1, hw_1, h⟩ := gw_lt h
  try rw [← hw_1]
  exact hrec14 h hq
theorem B_X11_likeOf_14 {l : Launch} {x : gw_C} {d : Nat} {S : gw_S} {Q : Option Value → gw_S → gw_M → Prop} {K : Nat → gw_Kt} {mc ms cc ss : Nat} (hcc : cc ≤ mc) (hss : ss ≤ ms) (hK : gw_cl l x (d + 4) mc ms bsX11_likeOf Q K) {a0 : Nat} (hS0 : gw_sh S 11 a0) {n0 : Nat} : ∀ {n : Nat} {v1 v2} {μ : gw_M} {r}, F_X11_likeOf_14 n0 a0 n v1 v2 μ = some r → Q (some (.int r)) S μ → K 14 [.ref a0, .int v1, .int v2] [] S μ cc ss := by
  have ka0_0 : gw_kd S a0 = 11 := (hS0 0 _ rfl).1
  have ra0_0_0 : gw_rf S a0 0 = a0 + 1 := (hS0 0 _ rfl).2.2 (0, 1) (by decide)
  have ka0_1 : gw_kd S (a0 + 1) = 12 := (hS0 1 _ rfl).1
  have la0_1 : gw_ln S (a0 + 1) = 20813 := (hS0 1 _ rfl).2.1
  intro n
  induction n with
  | zero => intro v1 v2 μ r h hq; simp [F_X11_likeOf_14] at h
  | succ n ih =>
    intro v1 v2 μ r h hq
    simp only [F_X11_likeOf_14] at h
    refine hK _ _ _ _ _ _ _ ?_
    rw [fdX11_likeOf_14]
    simp only [gt_nil, true_and, eq_self, gt_iload_n, gt_ink, gw_nth, gt_bipush, gt_icmp, gt_aload_n, gt_rfk, gt_v0, gt_v1, gt_v2, gt_v3, gt_v4, gt_v5, gt_if, gt_get_r, gt_get_i, gt_get_z, gt_sipush, gt_iadd, gt_iaload, gt_iret, gt_retz, bkX11_likeOf_14, ka0_0, ra0_0_0, ka0_1, la0_1]
    refine ⟨fun c_1 => ?_, fun c_1 => ?_⟩
    · replace h := gw_ifp2 (gw_c2_ge _ _) h c_1
      refine hK _ _ _ _ _ _ _ ?_
      rw [fdX11_likeOf_59]
      simp only [gt_nil, true_and, eq_self, gt_iconst, gt_iret, gt_retz, bkX11_likeOf_59, ka0_0, ra0_0_0, ka0_1, la0_1]
      obtain rfl := gw_inj1 h
      exact ⟨hcc, hss, hq⟩
    · replace h := gw_ifn2 (gw_c2_ge _ _) h c_1
      obtain ⟨r_2, e_4, h⟩ := gw_bnd h
      refine ⟨rfl, 0, 0, hcc, hss, ok_X11_leadTo hS0 e_4 ?_⟩
      simp only [gt_nil, true_and, eq_self, gt_if, gt_aload_n, gt_rfk, gw_nth, gt_get_r, gt_get_i, gt_get_z, gt_sipush, gt_iload_n, gt_ink, gt_iadd, gt_iaload, gt_icmp, gt_iret, gt_retz, Option.toList, List.cons_append, List.nil_append, Nat.add_zero, ka0_0, ra0_0_0, ka0_1, la0_1]
      refine ⟨fun c_6 => ?_, fun c_6 => ?_⟩
      · replace h := gw_ifp h c_6
        exact B_X11_likeOf_53 hcc hss hK hS0 ih h hq
      · replace h := gw_ifn h c_6
        obtain ⟨c_7, h⟩ := gw_ife h
        refine ⟨c_7, ?_⟩
        obtain ⟨c_8, h⟩ := gw_ife h
        refine ⟨c_8, ?_⟩
        refine ⟨fun c_9 => ?_, fun c_9 => ?_⟩
        · replace h := gw_ifp2 (gw_c2_ne _ _) h c_9
          exact B_X11_likeOf_53 hcc hss hK hS0 ih h hq
        · replace h := gw_ifn2 (gw_c2_ne _ _) h c_9
          obtain rfl := gw_inj1 h
          exact ⟨hcc, hss, hq⟩
theorem ok_X11_likeOf {l : Launch} {x : gw_C} {d : Nat} {S : gw_S} {Q : Option Value → gw_S → gw_M → Prop} {v1 : Int32} {a0 : Nat} {n0 : Nat} {μ : gw_M} {r} (hS0 : gw_sh S 11 a0) (h : F_X11_likeOf n0 a0 v1 μ = some r) (hq : Q (some (.int r)) S μ) : gw_ok l x (d + 5) sgX11_likeOf 0 0 [.ref a0, .int v1] S μ Q := by
  refine gw_ok_of stX11_likeOf (lv0 := [.ref a0, .int v1, .retAddr 0]) (Nat.le_of_ble_eq_true rfl) rfl rfl ?_
  intro K hK
  have hcc : 0 ≤ 0 := Nat.zero_le _
  have hss : 0 ≤ 0 := Nat.zero_le _
  have ka0_0 : gw_kd S a0 = 11 := (hS0 0 _ rfl).1
  unfold F_X11_likeOf at h
  refine hK _ _ _ _ _ _ _ ?_
  rw [fdX11_likeOf_0]
  simp only [gt_nil, true_and, eq_self, gt_aload_n, gt_rfk, gw_nth, gt_iload_n, gt_ink, gt_v0, gt_v1, gt_v2, gt_v3, gt_v4, gt_v5, gt_if, gt_iconst, gt_iret, gt_retz, bkX11_likeOf_0, ka0_0]
  obtain ⟨r_1, e_3, h⟩ := gw_bnd h
  refine ⟨rfl, 0, 0, hcc, hss, ok_X11_leadTo hS0 e_3 ?_⟩
  simp only [gt_nil, true_and, eq_self, gt_if, gt_iconst, gt_iret, gt_retz, Option.toList, List.cons_append, List.nil_append, Nat.add_zero, ka0_0]
  refine ⟨fun c_5 => ?_, fun c_5 => ?_⟩
  · replace h := gw_ifp h c_5
    refine hK _ _ _ _ _ _ _ ?_
    rw [fdX11_likeOf_10]
    simp only [gt_nil, true_and, eq_self, gt_iload_n, gt_ink, gw_nth, gt_iconst, gt_iadd, gt_istore_n, gw_set, bkX11_likeOf_10, ka0_0]
    obtain ⟨w_6, hw_6, h⟩ := gw_lt h
    try rw [← hw_6]
    exact B_X11_likeOf_14 hcc hss hK hS0 h hq
  · replace h := gw_ifn h c_5
    obtain rfl := gw_inj1 h
    exact ⟨hcc, hss, hq⟩
def F_X11_joinNow_74 (rec53 : Int32 → Int32 → gw_M → Option (gw_M)) (n0 : Nat) (a0 : Nat) (v1 : Int32) (v3 : Int32) (μ : gw_M) : Option (gw_M) := gw_let (v3 + 1) (fun (w_1 : Int32) => rec53 v1 w_1 μ)
def F_X11_joinNow_53 (n0 : Nat) (a0 : Nat) : Nat → Int32 → Int32 → gw_M → Option (gw_M)
  | 0, _, _, _ => none
  | n + 1, v1, v3, μ => (if 16 ≤ v3 then some μ else (F_X11_toOf n0 a0 2 v3 μ).bind (fun (r_2 : Int32) => (if ¬ r_2 = v1 then F_X11_joinNow_74 (F_X11_joinNow_53 n0 a0 n) n0 a0 v1 v3 μ else (F_X11_unfoldTo n0 a0 v3 μ).bind (fun (μ_8 : gw_M) => F_X11_joinNow_74 (F_X11_joinNow_53 n0 a0 n) n0 a0 v1 v3 μ_8))))
def F_X11_joinNow_30 (rec2 : Int32 → Int32 → Int32 → gw_M → Option (gw_M)) (n0 : Nat) (a0 : Nat) (v1 : Int32) (v2 : Int32) (v3 : Int32) (μ : gw_M) : Option (gw_M) := gw_let (v3 + 1) (fun (w_1 : Int32) => rec2 v1 v2 w_1 μ)
def F_X11_joinNow_2 (n0 : Nat) (a0 : Nat) : Nat → Int32 → Int32 → Int32 → gw_M → Option (gw_M)
  | 0, _, _, _, _ => none
  | n + 1, v1, v2, v3, μ => (if 16 ≤ v3 then (F_X11_leadTo n0 a0 v1 μ).bind (fun (r_2 : Int32) => gw_let (gw_up μ (a0 + 1) 27 ((μ (a0 + 1) 27) ||| r_2)) (fun (μ_6 : gw_M) => F_X11_joinNow_53 n0 a0 n0 v1 0 μ_6)) else (F_X11_toOf n0 a0 2 v3 μ).bind (fun (r_7 : Int32) => (if ¬ r_7 = v2 then F_X11_joinNow_30 (F_X11_joinNow_2 n0 a0 n) n0 a0 v1 v2 v3 μ else (F_X11_entryAt n0 a0 2 v3 μ).bind (fun (r_12 : Int32) => (if 0 ≤ r_12 ∧ r_12.toNatClampNeg < 20813 then gw_let (gw_up μ (a0 + 1) r_12.toNatClampNeg v1) (fun (μ_17 : gw_M) => F_X11_joinNow_30 (F_X11_joinNow_2 n0 a0 n) n0 a0 v1 v2 v3 μ_17) else none)))))
def F_X11_joinNow (n0 : Nat) (a0 : Nat) (v1 : Int32) (v2 : Int32) (μ : gw_M) : Option (gw_M) := F_X11_joinNow_2 n0 a0 n0 v1 v2 0 μ
theorem B_X11_joinNow_74 {l : Launch} {x : gw_C} {d : Nat} {S : gw_S} {Q : Option Value → gw_S → gw_M → Prop} {K : Nat → gw_Kt} {mc ms cc ss : Nat} (hcc : cc ≤ mc) (hss : ss ≤ ms) (hK : gw_cl l x (d + 5) mc ms bsX11_joinNow Q K) {a0 : Nat} (hS0 : gw_sh S 11 a0) {rec53 : Int32 → Int32 → gw_M → Option (gw_M)} (hrec53 : ∀ {v1 v3} {u2 : Value} {μ : gw_M} {μ'}, rec53 v1 v3 μ = some μ' → Q none S μ' → K 53 [.ref a0, .int v1, u2, .int v3] [] S μ cc ss) {n0 : Nat} {v1 v3} {u2 : Value} {μ : gw_M} {μ'} (h : F_X11_joinNow_74 rec53 n0 a0 v1 v3 μ = some μ') (hq : Q none S μ') : K 74 [.ref a0, .int v1, u2, .int v3] [] S μ cc ss := by
  unfold F_X11_joinNow_74 at h
  refine hK _ _ _ _ _ _ _ ?_
  rw [fdX11_joinNow_74]
  simp only [gt_nil, true_and, eq_self, gt_iinc, gt_ink, gw_nth, gw_set, gt_goto, bkX11_joinNow_74]
  obtain ⟨w_1, hw_1, h⟩ := gw_lt h
  try rw [← hw_1]
  exact hrec53 h hq
theorem B_X11_joinNow_53 {l : Launch} {x : gw_C} {d : Nat} {S : gw_S} {Q : Option Value → gw_S → gw_M → Prop} {K : Nat → gw_Kt} {mc ms cc ss : Nat} (hcc : cc ≤ mc) (hss : ss ≤ ms) (hK : gw_cl l x (d + 5) mc ms bsX11_joinNow Q K) {a0 : Nat} (hS0 : gw_sh S 11 a0) {n0 : Nat} : ∀ {n : Nat} {v1 v3} {u2 : Value} {μ : gw_M} {μ'}, F_X11_joinNow_53 n0 a0 n v1 v3 μ = some μ' → Q none S μ' → K 53 [.ref a0, .int v1, u2, .int v3] [] S μ cc ss := by
  have ka0_0 : gw_kd S a0 = 11 := (hS0 0 _ rfl).1
  intro n
  induction n with
  | zero => intro v1 v3 u2 μ μ' h hq; simp [F_X11_joinNow_53] at h
  | succ n ih =>
    intro v1 v3 u2 μ μ' h hq
    simp only [F_X11_joinNow_53] at h
    refine hK _ _ _ _ _ _ _ ?_
    rw [fdX11_joinNow_53]
    simp only [gt_nil, true_and, eq_self, gt_iload_n, gt_ink, gw_nth, gt_bipush, gt_icmp, gt_aload_n, gt_rfk, gt_iconst, gt_v0, gt_v1, gt_v2, gt_v3, gt_v4, gt_v5, bkX11_joinNow_53, ka0_0]
    refine ⟨fun c_1 => ?_, fun c_1 => ?_⟩
    · replace h := gw_ifp2 (gw_c2_ge _ _) h c_1
      refine hK _ _ _ _ _ _ _ ?_
      rw [fdX11_joinNow_80]
      simp only [gt_nil, true_and, eq_self, gt_vret, bkX11_joinNow_80, ka0_0]
      obtain rfl := gw_inj1 h
      exact ⟨hcc, hss, hq⟩
    · replace h := gw_ifn2 (gw_c2_ge _ _) h c_1
      obtain ⟨r_2, e_4, h⟩ := gw_bnd h
      refine ⟨rfl, 0, 0, hcc, hss, ok_X11_toOf hS0 e_4 ?_⟩
      simp only [gt_nil, true_and, eq_self, gt_iload_n, gt_ink, gw_nth, gt_icmp, gt_aload_n, gt_rfk, gt_v0, gt_v1, gt_v2, gt_v3, gt_v4, gt_v5, Option.toList, List.cons_append, List.nil_append, Nat.add_zero, ka0_0]
      refine ⟨fun c_6 => ?_, fun c_6 => ?_⟩
      · replace h := gw_ifp2 (gw_c2_ne _ _) h c_6
        exact B_X11_joinNow_74 hcc hss hK hS0 ih h hq
      · replace h := gw_ifn2 (gw_c2_ne _ _) h c_6
        obtain ⟨μ_8, e_9, h⟩ := gw_bnd h
        refine ⟨rfl, 0, 0, hcc, hss, ok_X11_unfoldTo hS0 e_9 ?_⟩
        simp only [gt_nil, true_and, eq_self, Option.toList, List.cons_append, List.nil_append, Nat.add_zero, ka0_0]
        exact B_X11_joinNow_74 hcc hss hK hS0 ih h hq
theorem B_X11_joinNow_30 {l : Launch} {x : gw_C} {d : Nat} {S : gw_S} {Q : Option Value → gw_S → gw_M → Prop} {K : Nat → gw_Kt} {mc ms cc ss : Nat} (hcc : cc ≤ mc) (hss : ss ≤ ms) (hK : gw_cl l x (d + 5) mc ms bsX11_joinNow Q K) {a0 : Nat} (hS0 : gw_sh S 11 a0) {rec2 : Int32 → Int32 → Int32 → gw_M → Option (gw_M)} (hrec2 : ∀ {v1 v2 v3} {μ : gw_M} {μ'}, rec2 v1 v2 v3 μ = some μ' → Q none S μ' → K 2 [.ref a0, .int v1, .int v2, .int v3] [] S μ cc ss) {n0 : Nat} {v1 v2 v3} {μ : gw_M} {μ'} (h : F_X11_joinNow_30 rec2 n0 a0 v1 v2 v3 μ = some μ') (hq : Q none S μ') : K 30 [.ref a0, .int v1, .int v2, .int v3] [] S μ cc ss := by
  unfold F_X11_joinNow_30 at h
  refine hK _ _ _ _ _ _ _ ?_
  rw [fdX11_joinNow_30]
  simp only [gt_nil, true_and, eq_self, gt_iinc, gt_ink, gw_nth, gw_set, gt_goto, bkX11_joinNow_30]
  obtain ⟨w_1, hw_1, h⟩ := gw_lt h
  try rw [← hw_1]
  exact hrec2 h hq
theorem B_X11_joinNow_2 {l : Launch} {x : gw_C} {d : Nat} {S : gw_S} {Q : Option Value → gw_S → gw_M → Prop} {K : Nat → gw_Kt} {mc ms cc ss : Nat} (hcc : cc ≤ mc) (hss : ss ≤ ms) (hK : gw_cl l x (d + 5) mc ms bsX11_joinNow Q K) {a0 : Nat} (hS0 : gw_sh S 11 a0) {n0 : Nat} : ∀ {n : Nat} {v1 v2 v3} {μ : gw_M} {μ'}, F_X11_joinNow_2 n0 a0 n v1 v2 v3 μ = some μ' → Q none S μ' → K 2 [.ref a0, .int v1, .int v2, .int v3] [] S μ cc ss := by
  have ka0_0 : gw_kd S a0 = 11 := (hS0 0 _ rfl).1
  have ra0_0_0 : gw_rf S a0 0 = a0 + 1 := (hS0 0 _ rfl).2.2 (0, 1) (by decide)
  have ka0_1 : gw_kd S (a0 + 1) = 12 := (hS0 1 _ rfl).1
  have la0_1 : gw_ln S (a0 + 1) = 20813 := (hS0 1 _ rfl).2.1
  intro n
  induction n with
  | zero => intro v1 v2 v3 μ μ' h hq; simp [F_X11_joinNow_2] at h
  | succ n ih =>
    intro v1 v2 v3 μ μ' h hq
    simp only [F_X11_joinNow_2] at h
    refine hK _ _ _ _ _ _ _ ?_
    rw [fdX11_joinNow_2]
    simp only [gt_nil, true_and, eq_self, gt_iload_n, gt_ink, gw_nth, gt_bipush, gt_icmp, gt_aload_n, gt_rfk, gt_iconst, gt_v0, gt_v1, gt_v2, gt_v3, gt_v4, gt_v5, gt_get_r, gt_get_i, gt_get_z, gt_iastore, bkX11_joinNow_2, ka0_0, ra0_0_0, ka0_1, la0_1, (show Int32.toNatClampNeg 27 = 27 from rfl)]
    refine ⟨fun c_1 => ?_, fun c_1 => ?_⟩
    · replace h := gw_ifp2 (gw_c2_ge _ _) h c_1
      refine hK _ _ _ _ _ _ _ ?_
      rw [fdX11_joinNow_36]
      simp only [gt_nil, true_and, eq_self, gt_aload_n, gt_rfk, gw_nth, gt_get_r, gt_get_i, gt_get_z, gt_bipush, gt_dup2, gt_iaload, gt_iload_n, gt_ink, gt_v0, gt_v1, gt_v2, gt_v3, gt_v4, gt_v5, gt_ior, gt_iastore, gt_iconst, gt_istore_n, gw_set, bkX11_joinNow_36, ka0_0, ra0_0_0, ka0_1, la0_1, (show Int32.toNatClampNeg 27 = 27 from rfl)]
      refine ⟨(⟨by decide, by decide⟩ : gw_in 27 20813), ?_⟩
      obtain ⟨r_2, e_4, h⟩ := gw_bnd h
      refine ⟨rfl, 0, 0, hcc, hss, ok_X11_leadTo hS0 e_4 ?_⟩
      simp only [gt_nil, true_and, eq_self, gt_ior, gt_iastore, gt_iconst, gt_istore_n, gw_set, Option.toList, List.cons_append, List.nil_append, Nat.add_zero, ka0_0, ra0_0_0, ka0_1, la0_1, (show Int32.toNatClampNeg 27 = 27 from rfl)]
      refine ⟨(⟨by decide, by decide⟩ : gw_in 27 20813), ?_⟩
      obtain ⟨μ_6, hμ_6, h⟩ := gw_lt h
      try rw [← hμ_6]
      exact B_X11_joinNow_53 hcc hss hK hS0 h hq
    · replace h := gw_ifn2 (gw_c2_ge _ _) h c_1
      obtain ⟨r_7, e_9, h⟩ := gw_bnd h
      refine ⟨rfl, 0, 0, hcc, hss, ok_X11_toOf hS0 e_9 ?_⟩
      simp only [gt_nil, true_and, eq_self, gt_iload_n, gt_ink, gw_nth, gt_icmp, gt_aload_n, gt_rfk, gt_get_r, gt_get_i, gt_get_z, gt_iconst, gt_v0, gt_v1, gt_v2, gt_v3, gt_v4, gt_v5, gt_iastore, Option.toList, List.cons_append, List.nil_append, Nat.add_zero, ka0_0, ra0_0_0, ka0_1, la0_1, (show Int32.toNatClampNeg 27 = 27 from rfl)]
      refine ⟨fun c_11 => ?_, fun c_11 => ?_⟩
      · replace h := gw_ifp2 (gw_c2_ne _ _) h c_11
        exact B_X11_joinNow_30 hcc hss hK hS0 ih h hq
      · replace h := gw_ifn2 (gw_c2_ne _ _) h c_11
        obtain ⟨r_12, e_14, h⟩ := gw_bnd h
        refine ⟨rfl, 0, 0, hcc, hss, ok_X11_entryAt hS0 e_14 ?_⟩
        simp only [gt_nil, true_and, eq_self, gt_iload_n, gt_ink, gw_nth, gt_iastore, Option.toList, List.cons_append, List.nil_append, Nat.add_zero, ka0_0, ra0_0_0, ka0_1, la0_1, (show Int32.toNatClampNeg 27 = 27 from rfl)]
        obtain ⟨c_16, h⟩ := gw_ife h
        refine ⟨c_16, ?_⟩
        obtain ⟨μ_17, hμ_17, h⟩ := gw_lt h
        try rw [← hμ_17]
        exact B_X11_joinNow_30 hcc hss hK hS0 ih h hq
theorem ok_X11_joinNow {l : Launch} {x : gw_C} {d : Nat} {S : gw_S} {Q : Option Value → gw_S → gw_M → Prop} {v1 v2 : Int32} {a0 : Nat} {n0 : Nat} {μ : gw_M} {μ'} (hS0 : gw_sh S 11 a0) (h : F_X11_joinNow n0 a0 v1 v2 μ = some μ') (hq : Q none S μ') : gw_ok l x (d + 6) sgX11_joinNow 0 0 [.ref a0, .int v1, .int v2] S μ Q := by
  refine gw_ok_of stX11_joinNow (lv0 := [.ref a0, .int v1, .int v2, .retAddr 0]) (Nat.le_of_ble_eq_true rfl) rfl rfl ?_
  intro K hK
  have hcc : 0 ≤ 0 := Nat.zero_le _
  have hss : 0 ≤ 0 := Nat.zero_le _
  unfold F_X11_joinNow at h
  refine hK _ _ _ _ _ _ _ ?_
  rw [fdX11_joinNow_0]
  simp only [gt_nil, true_and, eq_self, gt_iconst, gt_istore_n, gw_set, bkX11_joinNow_0]
  exact B_X11_joinNow_2 hcc hss hK hS0 h hq
def F_X11_part (n0 : Nat) (a0 : Nat) (v1 : Int32) (μ : gw_M) : Option (gw_M) := (F_X11_toOf n0 a0 2 v1 μ).bind (fun (r_1 : Int32) => (F_X11_leadTo n0 a0 r_1 μ).bind (fun (r_5 : Int32) => (if ¬ r_5 = ((1 : Int32) <<< (v1 &&& 31)) then (F_X11_layEntry n0 a0 2 v1 (-1) 0 μ).bind (fun (μ_11 : gw_M) => (if 0 ≤ ((802 : Int32) + r_1) ∧ ((802 : Int32) + r_1).toNatClampNeg < 20813 then (if 0 ≤ ((812 : Int32) + v1) ∧ ((812 : Int32) + v1).toNatClampNeg < 20813 then gw_let (gw_up μ_11 (a0 + 1) ((812 : Int32) + v1).toNatClampNeg (μ_11 (a0 + 1) ((802 : Int32) + r_1).toNatClampNeg)) (fun (μ_16 : gw_M) => (F_X11_give n0 a0 v1 μ_16).bind (fun (μ_18 : gw_M) => some μ_18)) else none) else none)) else gw_let (gw_up μ (a0 + 1) 27 ((μ (a0 + 1) 27) &&& (((1 : Int32) <<< (v1 &&& 31)) ^^^ ((-1) : Int32)))) (fun (μ_21 : gw_M) => (F_X11_unfoldTo n0 a0 v1 μ_21).bind (fun (μ_23 : gw_M) => some μ_23)))))
theorem ok_X11_part {l : Launch} {x : gw_C} {d : Nat} {S : gw_S} {Q : Option Value → gw_S → gw_M → Prop} {v1 : Int32} {a0 : Nat} {n0 : Nat} {μ : gw_M} {μ'} (hS0 : gw_sh S 11 a0) (h : F_X11_part n0 a0 v1 μ = some μ') (hq : Q none S μ') : gw_ok l x (d + 9) sgX11_part 0 0 [.ref a0, .int v1] S μ Q := by
  refine gw_ok_of stX11_part (lv0 := [.ref a0, .int v1, .retAddr 0]) (Nat.le_of_ble_eq_true rfl) rfl rfl ?_
  intro K hK
  have hcc : 0 ≤ 0 := Nat.zero_le _
  have hss : 0 ≤ 0 := Nat.zero_le _
  have ka0_0 : gw_kd S a0 = 11 := (hS0 0 _ rfl).1
  have ra0_0_0 : gw_rf S a0 0 = a0 + 1 := (hS0 0 _ rfl).2.2 (0, 1) (by decide)
  have ka0_1 : gw_kd S (a0 + 1) = 12 := (hS0 1 _ rfl).1
  have la0_1 : gw_ln S (a0 + 1) = 20813 := (hS0 1 _ rfl).2.1
  unfold F_X11_part at h
  refine hK _ _ _ _ _ _ _ ?_
  rw [fdX11_part_0]
  simp only [gt_nil, true_and, eq_self, gt_aload_n, gt_rfk, gw_nth, gt_iconst, gt_iload_n, gt_ink, gt_v0, gt_v1, gt_v2, gt_v3, gt_v4, gt_v5, gt_istore_n, gw_set, gt_ishl, gt_icmp, gt_get_r, gt_get_i, gt_get_z, gt_bipush, gt_dup2, gt_iaload, gt_ixor, gt_iand, gt_iastore, gt_vret, bkX11_part_0, ka0_0, ra0_0_0, ka0_1, la0_1, (show Int32.toNatClampNeg 27 = 27 from rfl)]
  obtain ⟨r_1, e_3, h⟩ := gw_bnd h
  refine ⟨rfl, 0, 0, hcc, hss, ok_X11_toOf hS0 e_3 ?_⟩
  simp only [gt_nil, true_and, eq_self, gt_istore_n, gw_set, gt_aload_n, gt_rfk, gw_nth, gt_iload_n, gt_ink, gt_v0, gt_v1, gt_v2, gt_v3, gt_v4, gt_v5, gt_iconst, gt_ishl, gt_icmp, gt_get_r, gt_get_i, gt_get_z, gt_bipush, gt_dup2, gt_iaload, gt_ixor, gt_iand, gt_iastore, gt_vret, Option.toList, List.cons_append, List.nil_append, Nat.add_zero, ka0_0, ra0_0_0, ka0_1, la0_1, (show Int32.toNatClampNeg 27 = 27 from rfl)]
  obtain ⟨r_5, e_7, h⟩ := gw_bnd h
  refine ⟨rfl, 0, 0, hcc, hss, ok_X11_leadTo hS0 e_7 ?_⟩
  simp only [gt_nil, true_and, eq_self, gt_iconst, gt_iload_n, gt_ink, gw_nth, gt_ishl, gt_icmp, gt_aload_n, gt_rfk, gt_get_r, gt_get_i, gt_get_z, gt_bipush, gt_dup2, gt_iaload, gt_ixor, gt_iand, gt_iastore, gt_v0, gt_v1, gt_v2, gt_v3, gt_v4, gt_v5, gt_vret, Option.toList, List.cons_append, List.nil_append, Nat.add_zero, ka0_0, ra0_0_0, ka0_1, la0_1, (show Int32.toNatClampNeg 27 = 27 from rfl)]
  refine ⟨fun c_9 => ?_, fun c_9 => ?_⟩
  · replace h := gw_ifp2 (gw_c2_ne _ _) h c_9
    refine hK _ _ _ _ _ _ _ ?_
    rw [fdX11_part_39]
    simp only [gt_nil, true_and, eq_self, gt_aload_n, gt_rfk, gw_nth, gt_iconst, gt_iload_n, gt_ink, gt_v0, gt_v1, gt_v2, gt_v3, gt_v4, gt_v5, gt_get_r, gt_get_i, gt_get_z, gt_sipush, gt_iadd, gt_iaload, gt_iastore, gt_vret, bkX11_part_39, ka0_0, ra0_0_0, ka0_1, la0_1, (show Int32.toNatClampNeg 27 = 27 from rfl)]
    obtain ⟨μ_11, e_12, h⟩ := gw_bnd h
    refine ⟨rfl, 0, 0, hcc, hss, ok_X11_layEntry hS0 e_12 ?_⟩
    simp only [gt_nil, true_and, eq_self, gt_aload_n, gt_rfk, gw_nth, gt_get_r, gt_get_i, gt_get_z, gt_sipush, gt_iload_n, gt_ink, gt_iadd, gt_iaload, gt_iastore, gt_v0, gt_v1, gt_v2, gt_v3, gt_v4, gt_v5, gt_vret, Option.toList, List.cons_append, List.nil_append, Nat.add_zero, ka0_0, ra0_0_0, ka0_1, la0_1, (show Int32.toNatClampNeg 27 = 27 from rfl)]
    obtain ⟨c_14, h⟩ := gw_ife h
    refine ⟨c_14, ?_⟩
    obtain ⟨c_15, h⟩ := gw_ife h
    refine ⟨c_15, ?_⟩
    obtain ⟨μ_16, hμ_16, h⟩ := gw_lt h
    try rw [← hμ_16]
    obtain ⟨μ_18, e_19, h⟩ := gw_bnd h
    refine ⟨rfl, 0, 0, hcc, hss, ok_X11_give hS0 e_19 ?_⟩
    simp only [gt_nil, true_and, eq_self, gt_vret, Option.toList, List.cons_append, List.nil_append, Nat.add_zero, ka0_0, ra0_0_0, ka0_1, la0_1, (show Int32.toNatClampNeg 27 = 27 from rfl)]
    obtain rfl := gw_inj1 h
    exact ⟨hcc, hss, hq⟩
  · replace h := gw_ifn2 (gw_c2_ne _ _) h c_9
    refine ⟨(⟨by decide, by decide⟩ : gw_in 27 20813), ?_⟩
    refine ⟨(⟨by decide, by decide⟩ : gw_in 27 20813), ?_⟩
    obtain ⟨μ_21, hμ_21, h⟩ := gw_lt h
    try rw [← hμ_21]
    obtain ⟨μ_23, e_24, h⟩ := gw_bnd h
    refine ⟨rfl, 0, 0, hcc, hss, ok_X11_unfoldTo hS0 e_24 ?_⟩
    simp only [gt_nil, true_and, eq_self, gt_vret, Option.toList, List.cons_append, List.nil_append, Nat.add_zero, ka0_0, ra0_0_0, ka0_1, la0_1, (show Int32.toNatClampNeg 27 = 27 from rfl)]
    obtain rfl := gw_inj1 h
    exact ⟨hcc, hss, hq⟩
def F_X11_isParted_37 (n0 : Nat) (a0 : Nat) (μ : gw_M) : Option (Int32) := some 0
def F_X11_isParted (n0 : Nat) (a0 : Nat) (v1 : Int32) (v2 : Int32) (μ : gw_M) : Option (Int32) := (if ¬ v2 = 1 then F_X11_isParted_37 n0 a0 μ else (F_X11_isCopied n0 a0 v1 μ).bind (fun (r_2 : Int32) => (if r_2 = 0 then F_X11_isParted_37 n0 a0 μ else (F_X11_entryAt n0 a0 2 v1 μ).bind (fun (r_7 : Int32) => (if 0 ≤ (r_7 + (1 : Int32)) ∧ (r_7 + (1 : Int32)).toNatClampNeg < 20813 then (F_X11_has n0 (μ (a0 + 1) (r_7 + (1 : Int32)).toNatClampNeg) 1 μ).bind (fun (r_12 : Int32) => (if r_12 = 0 then F_X11_isParted_37 n0 a0 μ else some 1)) else none)))))
theorem B_X11_isParted_37 {l : Launch} {x : gw_C} {d : Nat} {S : gw_S} {Q : Option Value → gw_S → gw_M → Prop} {K : Nat → gw_Kt} {mc ms cc ss : Nat} (hcc : cc ≤ mc) (hss : ss ≤ ms) (hK : gw_cl l x (d + 2) mc ms bsX11_isParted Q K) {a0 : Nat} (hS0 : gw_sh S 11 a0) {n0 : Nat}  {u1 u2 : Value} {μ : gw_M} {r} (h : F_X11_isParted_37 n0 a0 μ = some r) (hq : ((r = 0 ∨ r = 1) → Q (some (.int r)) S μ)) : K 37 [.ref a0, u1, u2] [] S μ cc ss := by
  unfold F_X11_isParted_37 at h
  refine hK _ _ _ _ _ _ _ ?_
  rw [fdX11_isParted_37]
  simp only [gt_nil, true_and, eq_self, gt_iconst, bkX11_isParted_37]
  refine hK _ _ _ _ _ _ _ ?_
  rw [fdX11_isParted_38]
  simp only [gt_nil, true_and, eq_self, gt_iret, gt_retz, bkX11_isParted_38]
  obtain rfl := gw_inj1 h
  exact ⟨(Or.inl rfl), hcc, hss, hq (Or.inl rfl)⟩
theorem ok_X11_isParted {l : Launch} {x : gw_C} {d : Nat} {S : gw_S} {Q : Option Value → gw_S → gw_M → Prop} {v1 v2 : Int32} {a0 : Nat} {n0 : Nat} {μ : gw_M} {r} (hS0 : gw_sh S 11 a0) (h : F_X11_isParted n0 a0 v1 v2 μ = some r) (hq : ((r = 0 ∨ r = 1) → Q (some (.int r)) S μ)) : gw_ok l x (d + 3) sgX11_isParted 0 0 [.ref a0, .int v1, .int v2] S μ Q := by
  refine gw_ok_of stX11_isParted (lv0 := [.ref a0, .int v1, .int v2]) (Nat.le_of_ble_eq_true rfl) rfl rfl ?_
  intro K hK
  have hcc : 0 ≤ 0 := Nat.zero_le _
  have hss : 0 ≤ 0 := Nat.zero_le _
  have ka0_0 : gw_kd S a0 = 11 := (hS0 0 _ rfl).1
  have ra0_0_0 : gw_rf S a0 0 = a0 + 1 := (hS0 0 _ rfl).2.2 (0, 1) (by decide)
  have ka0_1 : gw_kd S (a0 + 1) = 12 := (hS0 1 _ rfl).1
  have la0_1 : gw_ln S (a0 + 1) = 20813 := (hS0 1 _ rfl).2.1
  unfold F_X11_isParted at h
  refine hK _ _ _ _ _ _ _ ?_
  rw [fdX11_isParted_0]
  simp only [gt_nil, true_and, eq_self, gt_iload_n, gt_ink, gw_nth, gt_iconst, gt_icmp, gt_aload_n, gt_rfk, gt_v0, gt_v1, gt_v2, gt_v3, gt_v4, gt_v5, gt_if, gt_get_r, gt_get_i, gt_get_z, gt_iadd, gt_iaload, gt_s1_0, gt_s2_0, gt_s3_0, gt_s4_0, gt_s1_1, gt_s2_1, gt_s3_1, gt_s4_1, gt_acpy, gt_goto, bkX11_isParted_0, ka0_0, ra0_0_0, ka0_1, la0_1]
  refine ⟨fun c_1 => ?_, fun c_1 => ?_⟩
  · replace h := gw_ifp2 (gw_c2_ne _ _) h c_1
    exact B_X11_isParted_37 hcc hss hK hS0 h hq
  · replace h := gw_ifn2 (gw_c2_ne _ _) h c_1
    obtain ⟨r_2, e_4, h⟩ := gw_bnd h
    refine ⟨rfl, 0, 0, hcc, hss, ok_X11_isCopied hS0 e_4 ?_⟩
    intro hbr_2
    simp only [gt_nil, true_and, eq_self, gt_if, gt_aload_n, gt_rfk, gw_nth, gt_get_r, gt_get_i, gt_get_z, gt_iconst, gt_iload_n, gt_ink, gt_v0, gt_v1, gt_v2, gt_v3, gt_v4, gt_v5, gt_iadd, gt_iaload, gt_s1_0, gt_s2_0, gt_s3_0, gt_s4_0, gt_s1_1, gt_s2_1, gt_s3_1, gt_s4_1, gt_acpy, gt_goto, Option.toList, List.cons_append, List.nil_append, Nat.add_zero, ka0_0, ra0_0_0, ka0_1, la0_1]
    refine ⟨fun c_6 => ?_, fun c_6 => ?_⟩
    · replace h := gw_ifp h c_6
      exact B_X11_isParted_37 hcc hss hK hS0 h hq
    · replace h := gw_ifn h c_6
      obtain ⟨r_7, e_9, h⟩ := gw_bnd h
      refine ⟨rfl, 0, 0, hcc, hss, ok_X11_entryAt hS0 e_9 ?_⟩
      simp only [gt_nil, true_and, eq_self, gt_iconst, gt_iadd, gt_iaload, gt_s1_0, gt_s2_0, gt_s3_0, gt_s4_0, gt_s1_1, gt_s2_1, gt_s3_1, gt_s4_1, gt_acpy, gt_if, gt_goto, Option.toList, List.cons_append, List.nil_append, Nat.add_zero, ka0_0, ra0_0_0, ka0_1, la0_1]
      obtain ⟨c_11, h⟩ := gw_ife h
      refine ⟨c_11, ?_⟩
      obtain ⟨r_12, e_14, h⟩ := gw_bnd h
      refine ⟨rfl, 0, 0, hcc, hss, ok_X11_has e_14 ?_⟩
      intro hbr_12
      simp only [gt_nil, true_and, eq_self, gt_if, gt_iconst, gt_goto, Option.toList, List.cons_append, List.nil_append, Nat.add_zero, ka0_0, ra0_0_0, ka0_1, la0_1]
      refine ⟨fun c_16 => ?_, fun c_16 => ?_⟩
      · replace h := gw_ifp h c_16
        exact B_X11_isParted_37 hcc hss hK hS0 h hq
      · replace h := gw_ifn h c_16
        refine hK _ _ _ _ _ _ _ ?_
        rw [fdX11_isParted_38]
        simp only [gt_nil, true_and, eq_self, gt_iret, gt_retz, bkX11_isParted_38, ka0_0, ra0_0_0, ka0_1, la0_1]
        obtain rfl := gw_inj1 h
        exact ⟨(Or.inr rfl), hcc, hss, hq (Or.inr rfl)⟩
def F_X11_fold_0 (n0 : Nat) (a0 : Nat) : Nat → Int32 → gw_M → Option (gw_M)
  | 0, _, _ => none
  | n + 1, v1, μ => (if (μ (a0 + 1) 23) < (μ (a0 + 1) 4) then (F_X11_toOf n0 a0 1 v1 μ).bind (fun (r_2 : Int32) => (F_X11_entryAt n0 a0 3 v1 μ).bind (fun (r_6 : Int32) => (F_X11_toOf n0 a0 2 r_2 μ).bind (fun (r_10 : Int32) => (if 0 ≤ r_6 ∧ r_6.toNatClampNeg < 20813 then gw_let (gw_up μ (a0 + 1) r_6.toNatClampNeg r_10) (fun (μ_15 : gw_M) => (F_X11_entryAt n0 a0 3 v1 μ_15).bind (fun (r_16 : Int32) => (F_X11_rightsOf n0 a0 1 v1 μ_15).bind (fun (r_20 : Int32) => (F_X11_rightsOf n0 a0 2 r_2 μ_15).bind (fun (r_24 : Int32) => (if 0 ≤ (r_16 + (1 : Int32)) ∧ (r_16 + (1 : Int32)).toNatClampNeg < 20813 then gw_let (gw_up μ_15 (a0 + 1) (r_16 + (1 : Int32)).toNatClampNeg (r_20 &&& r_24)) (fun (μ_29 : gw_M) => (F_X11_comeLast n0 a0 786 23 v1 μ_29).bind (fun (μ_31 : gw_M) => some μ_31)) else none))))) else none)))) else (F_X11_unfold n0 a0 (μ (a0 + 1) 786) μ).bind (fun (μ_35 : gw_M) => F_X11_fold_0 n0 a0 n v1 μ_35))
def F_X11_fold (n0 : Nat) (a0 : Nat) (v1 : Int32) (μ : gw_M) : Option (gw_M) := F_X11_fold_0 n0 a0 n0 v1 μ
theorem B_X11_fold_0 {l : Launch} {x : gw_C} {d : Nat} {S : gw_S} {Q : Option Value → gw_S → gw_M → Prop} {K : Nat → gw_Kt} {mc ms cc ss : Nat} (hcc : cc ≤ mc) (hss : ss ≤ ms) (hK : gw_cl l x (d + 4) mc ms bsX11_fold Q K) {a0 : Nat} (hS0 : gw_sh S 11 a0) {n0 : Nat} : ∀ {n : Nat} {v1} {u2 : Value} {μ : gw_M} {μ'}, F_X11_fold_0 n0 a0 n v1 μ = some μ' → Q none S μ' → K 0 [.ref a0, .int v1, u2] [] S μ cc ss := by
  have ka0_0 : gw_kd S a0 = 11 := (hS0 0 _ rfl).1
  have ra0_0_0 : gw_rf S a0 0 = a0 + 1 := (hS0 0 _ rfl).2.2 (0, 1) (by decide)
  have ka0_1 : gw_kd S (a0 + 1) = 12 := (hS0 1 _ rfl).1
  have la0_1 : gw_ln S (a0 + 1) = 20813 := (hS0 1 _ rfl).2.1
  intro n
  induction n with
  | zero => intro v1 u2 μ μ' h hq; simp [F_X11_fold_0] at h
  | succ n ih =>
    intro v1 u2 μ μ' h hq
    simp only [F_X11_fold_0] at h
    refine hK _ _ _ _ _ _ _ ?_
    rw [fdX11_fold_0]
    simp only [gt_nil, true_and, eq_self, gt_aload_n, gt_rfk, gw_nth, gt_get_r, gt_get_i, gt_get_z, gt_bipush, gt_iaload, gt_iconst, gt_icmp, gt_sipush, gt_v0, gt_v1, gt_v2, gt_v3, gt_v4, gt_v5, gt_goto, bkX11_fold_0, ka0_0, ra0_0_0, ka0_1, la0_1, (show Int32.toNatClampNeg 23 = 23 from rfl), (show Int32.toNatClampNeg 4 = 4 from rfl), (show Int32.toNatClampNeg 786 = 786 from rfl)]
    refine ⟨(⟨by decide, by decide⟩ : gw_in 23 20813), ?_⟩
    refine ⟨(⟨by decide, by decide⟩ : gw_in 4 20813), ?_⟩
    refine ⟨fun c_1 => ?_, fun c_1 => ?_⟩
    · replace h := gw_ifp2 (gw_c2_lt _ _) h c_1
      refine hK _ _ _ _ _ _ _ ?_
      rw [fdX11_fold_31]
      simp only [gt_nil, true_and, eq_self, gt_aload_n, gt_rfk, gw_nth, gt_iconst, gt_iload_n, gt_ink, gt_v0, gt_v1, gt_v2, gt_v3, gt_v4, gt_v5, gt_istore_n, gw_set, gt_get_r, gt_get_i, gt_get_z, gt_iastore, gt_iadd, gt_iand, gt_sipush, gt_bipush, gt_vret, bkX11_fold_31, ka0_0, ra0_0_0, ka0_1, la0_1, (show Int32.toNatClampNeg 23 = 23 from rfl), (show Int32.toNatClampNeg 4 = 4 from rfl), (show Int32.toNatClampNeg 786 = 786 from rfl)]
      obtain ⟨r_2, e_4, h⟩ := gw_bnd h
      refine ⟨rfl, 0, 0, hcc, hss, ok_X11_toOf hS0 e_4 ?_⟩
      simp only [gt_nil, true_and, eq_self, gt_istore_n, gw_set, gt_aload_n, gt_rfk, gw_nth, gt_get_r, gt_get_i, gt_get_z, gt_iconst, gt_iload_n, gt_ink, gt_v0, gt_v1, gt_v2, gt_v3, gt_v4, gt_v5, gt_iastore, gt_iadd, gt_iand, gt_sipush, gt_bipush, gt_vret, Option.toList, List.cons_append, List.nil_append, Nat.add_zero, ka0_0, ra0_0_0, ka0_1, la0_1, (show Int32.toNatClampNeg 23 = 23 from rfl), (show Int32.toNatClampNeg 4 = 4 from rfl), (show Int32.toNatClampNeg 786 = 786 from rfl)]
      obtain ⟨r_6, e_8, h⟩ := gw_bnd h
      refine ⟨rfl, 0, 0, hcc, hss, ok_X11_entryAt hS0 e_8 ?_⟩
      simp only [gt_nil, true_and, eq_self, gt_aload_n, gt_rfk, gw_nth, gt_iconst, gt_iload_n, gt_ink, gt_v0, gt_v1, gt_v2, gt_v3, gt_v4, gt_v5, gt_iastore, gt_get_r, gt_get_i, gt_get_z, gt_iadd, gt_iand, gt_sipush, gt_bipush, gt_vret, Option.toList, List.cons_append, List.nil_append, Nat.add_zero, ka0_0, ra0_0_0, ka0_1, la0_1, (show Int32.toNatClampNeg 23 = 23 from rfl), (show Int32.toNatClampNeg 4 = 4 from rfl), (show Int32.toNatClampNeg 786 = 786 from rfl)]
      obtain ⟨r_10, e_12, h⟩ := gw_bnd h
      refine ⟨rfl, 0, 0, hcc, hss, ok_X11_toOf hS0 e_12 ?_⟩
      simp only [gt_nil, true_and, eq_self, gt_iastore, gt_aload_n, gt_rfk, gw_nth, gt_get_r, gt_get_i, gt_get_z, gt_iconst, gt_iload_n, gt_ink, gt_v0, gt_v1, gt_v2, gt_v3, gt_v4, gt_v5, gt_iadd, gt_iand, gt_sipush, gt_bipush, gt_vret, Option.toList, List.cons_append, List.nil_append, Nat.add_zero, ka0_0, ra0_0_0, ka0_1, la0_1, (show Int32.toNatClampNeg 23 = 23 from rfl), (show Int32.toNatClampNeg 4 = 4 from rfl), (show Int32.toNatClampNeg 786 = 786 from rfl)]
      obtain ⟨c_14, h⟩ := gw_ife h
      refine ⟨c_14, ?_⟩
      obtain ⟨μ_15, hμ_15, h⟩ := gw_lt h
      try rw [← hμ_15]
      obtain ⟨r_16, e_18, h⟩ := gw_bnd h
      refine ⟨rfl, 0, 0, hcc, hss, ok_X11_entryAt hS0 e_18 ?_⟩
      simp only [gt_nil, true_and, eq_self, gt_iconst, gt_iadd, gt_aload_n, gt_rfk, gw_nth, gt_iload_n, gt_ink, gt_v0, gt_v1, gt_v2, gt_v3, gt_v4, gt_v5, gt_iand, gt_iastore, gt_sipush, gt_bipush, gt_vret, Option.toList, List.cons_append, List.nil_append, Nat.add_zero, ka0_0, ra0_0_0, ka0_1, la0_1, (show Int32.toNatClampNeg 23 = 23 from rfl), (show Int32.toNatClampNeg 4 = 4 from rfl), (show Int32.toNatClampNeg 786 = 786 from rfl)]
      obtain ⟨r_20, e_22, h⟩ := gw_bnd h
      refine ⟨rfl, 0, 0, hcc, hss, ok_X11_rightsOf hS0 e_22 ?_⟩
      simp only [gt_nil, true_and, eq_self, gt_aload_n, gt_rfk, gw_nth, gt_iconst, gt_iload_n, gt_ink, gt_v0, gt_v1, gt_v2, gt_v3, gt_v4, gt_v5, gt_iand, gt_iastore, gt_sipush, gt_bipush, gt_vret, Option.toList, List.cons_append, List.nil_append, Nat.add_zero, ka0_0, ra0_0_0, ka0_1, la0_1, (show Int32.toNatClampNeg 23 = 23 from rfl), (show Int32.toNatClampNeg 4 = 4 from rfl), (show Int32.toNatClampNeg 786 = 786 from rfl)]
      obtain ⟨r_24, e_26, h⟩ := gw_bnd h
      refine ⟨rfl, 0, 0, hcc, hss, ok_X11_rightsOf hS0 e_26 ?_⟩
      simp only [gt_nil, true_and, eq_self, gt_iand, gt_iastore, gt_aload_n, gt_rfk, gw_nth, gt_sipush, gt_bipush, gt_iload_n, gt_ink, gt_v0, gt_v1, gt_v2, gt_v3, gt_v4, gt_v5, gt_vret, Option.toList, List.cons_append, List.nil_append, Nat.add_zero, ka0_0, ra0_0_0, ka0_1, la0_1, (show Int32.toNatClampNeg 23 = 23 from rfl), (show Int32.toNatClampNeg 4 = 4 from rfl), (show Int32.toNatClampNeg 786 = 786 from rfl)]
      obtain ⟨c_28, h⟩ := gw_ife h
      refine ⟨c_28, ?_⟩
      obtain ⟨μ_29, hμ_29, h⟩ := gw_lt h
      try rw [← hμ_29]
      obtain ⟨μ_31, e_32, h⟩ := gw_bnd h
      refine ⟨rfl, 0, 0, hcc, hss, ok_X11_comeLast hS0 e_32 ?_⟩
      simp only [gt_nil, true_and, eq_self, gt_vret, Option.toList, List.cons_append, List.nil_append, Nat.add_zero, ka0_0, ra0_0_0, ka0_1, la0_1, (show Int32.toNatClampNeg 23 = 23 from rfl), (show Int32.toNatClampNeg 4 = 4 from rfl), (show Int32.toNatClampNeg 786 = 786 from rfl)]
      obtain rfl := gw_inj1 h
      exact ⟨hcc, hss, hq⟩
    · replace h := gw_ifn2 (gw_c2_lt _ _) h c_1
      refine ⟨(⟨by decide, by decide⟩ : gw_in 786 20813), ?_⟩
      obtain ⟨μ_35, e_36, h⟩ := gw_bnd h
      refine ⟨rfl, 0, 0, hcc, hss, ok_X11_unfold hS0 e_36 ?_⟩
      simp only [gt_nil, true_and, eq_self, gt_goto, Option.toList, List.cons_append, List.nil_append, Nat.add_zero, ka0_0, ra0_0_0, ka0_1, la0_1, (show Int32.toNatClampNeg 23 = 23 from rfl), (show Int32.toNatClampNeg 4 = 4 from rfl), (show Int32.toNatClampNeg 786 = 786 from rfl)]
      exact ih h hq
theorem ok_X11_fold {l : Launch} {x : gw_C} {d : Nat} {S : gw_S} {Q : Option Value → gw_S → gw_M → Prop} {v1 : Int32} {a0 : Nat} {n0 : Nat} {μ : gw_M} {μ'} (hS0 : gw_sh S 11 a0) (h : F_X11_fold n0 a0 v1 μ = some μ') (hq : Q none S μ') : gw_ok l x (d + 5) sgX11_fold 0 0 [.ref a0, .int v1] S μ Q := by
  refine gw_ok_of stX11_fold (lv0 := [.ref a0, .int v1, .retAddr 0]) (Nat.le_of_ble_eq_true rfl) rfl rfl ?_
  intro K hK
  have hcc : 0 ≤ 0 := Nat.zero_le _
  have hss : 0 ≤ 0 := Nat.zero_le _
  unfold F_X11_fold at h
  exact B_X11_fold_0 hcc hss hK hS0 h hq
def F_X11_writeExit_58 (n0 : Nat) (a0 : Nat) (v1 : Int32) (v2 : Int32) (v3 : Int32) (μ : gw_M) : Option (gw_M) := gw_let (((861 : Int32) + ((4 : Int32) * (μ (a0 + 1) 25)))) (fun (w_1 : Int32) => (if 0 ≤ w_1 ∧ w_1.toNatClampNeg < 20813 then gw_let (gw_up μ (a0 + 1) w_1.toNatClampNeg v1) (fun (μ_3 : gw_M) => (if 0 ≤ (w_1 + (1 : Int32)) ∧ (w_1 + (1 : Int32)).toNatClampNeg < 20813 then gw_let (gw_up μ_3 (a0 + 1) (w_1 + (1 : Int32)).toNatClampNeg v2) (fun (μ_5 : gw_M) => (if 0 ≤ (w_1 + (2 : Int32)) ∧ (w_1 + (2 : Int32)).toNatClampNeg < 20813 then gw_let (gw_up μ_5 (a0 + 1) (w_1 + (2 : Int32)).toNatClampNeg v3) (fun (μ_7 : gw_M) => (if 0 ≤ (w_1 + (3 : Int32)) ∧ (w_1 + (3 : Int32)).toNatClampNeg < 20813 then gw_let (gw_up μ_7 (a0 + 1) (w_1 + (3 : Int32)).toNatClampNeg (μ_7 (a0 + 1) 3)) (fun (μ_9 : gw_M) => gw_let (gw_up μ_9 (a0 + 1) 25 ((μ_9 (a0 + 1) 25) + (1 : Int32))) (fun (μ_10 : gw_M) => (if 0 ≤ ((5 : Int32) + v1) ∧ ((5 : Int32) + v1).toNatClampNeg < 20813 then (if 0 ≤ ((5 : Int32) + v1) ∧ ((5 : Int32) + v1).toNatClampNeg < 20813 then gw_let (gw_up μ_10 (a0 + 1) ((5 : Int32) + v1).toNatClampNeg ((μ_10 (a0 + 1) ((5 : Int32) + v1).toNatClampNeg) + (1 : Int32))) (fun (μ_13 : gw_M) => some μ_13) else none) else none))) else none)) else none)) else none)) else none))
def F_X11_writeExit_17 (n0 : Nat) (a0 : Nat) : Nat → Int32 → Int32 → Int32 → Int32 → gw_M → Option (gw_M)
  | 0, _, _, _, _, _ => none
  | n + 1, v1, v2, v3, v4, μ => (if 953 ≤ v4 then gw_let (gw_up μ (a0 + 1) 25 ((μ (a0 + 1) 25) - (1 : Int32))) (fun (μ_2 : gw_M) => F_X11_writeExit_58 n0 a0 v1 v2 v3 μ_2) else (if 0 ≤ (v4 + (4 : Int32)) ∧ (v4 + (4 : Int32)).toNatClampNeg < 20813 then (if 0 ≤ v4 ∧ v4.toNatClampNeg < 20813 then gw_let (gw_up μ (a0 + 1) v4.toNatClampNeg (μ (a0 + 1) (v4 + (4 : Int32)).toNatClampNeg)) (fun (μ_5 : gw_M) => gw_let (v4 + 1) (fun (w_6 : Int32) => F_X11_writeExit_17 n0 a0 n v1 v2 v3 w_6 μ_5)) else none) else none))
def F_X11_writeExit (n0 : Nat) (a0 : Nat) (v1 : Int32) (v2 : Int32) (v3 : Int32) (μ : gw_M) : Option (gw_M) := (if ¬ (μ (a0 + 1) 25) = 24 then F_X11_writeExit_58 n0 a0 v1 v2 v3 μ else F_X11_writeExit_17 n0 a0 n0 v1 v2 v3 861 μ)
theorem B_X11_writeExit_58 {l : Launch} {x : gw_C} {d : Nat} {S : gw_S} {Q : Option Value → gw_S → gw_M → Prop} {K : Nat → gw_Kt} {mc ms cc ss : Nat} (hcc : cc ≤ mc) (hss : ss ≤ ms) (hK : gw_cl l x (d + 0) mc ms bsX11_writeExit Q K) {a0 : Nat} (hS0 : gw_sh S 11 a0) {n0 : Nat} {v1 v2 v3} {u4 : Value} {μ : gw_M} {μ'} (h : F_X11_writeExit_58 n0 a0 v1 v2 v3 μ = some μ') (hq : Q none S μ') : K 58 [.ref a0, .int v1, .int v2, .int v3, u4] [] S μ cc ss := by
  have ka0_0 : gw_kd S a0 = 11 := (hS0 0 _ rfl).1
  have ra0_0_0 : gw_rf S a0 0 = a0 + 1 := (hS0 0 _ rfl).2.2 (0, 1) (by decide)
  have ka0_1 : gw_kd S (a0 + 1) = 12 := (hS0 1 _ rfl).1
  have la0_1 : gw_ln S (a0 + 1) = 20813 := (hS0 1 _ rfl).2.1
  unfold F_X11_writeExit_58 at h
  refine hK _ _ _ _ _ _ _ ?_
  rw [fdX11_writeExit_58]
  simp only [gt_nil, true_and, eq_self, gt_sipush, gt_iconst, gt_aload_n, gt_rfk, gw_nth, gt_get_r, gt_get_i, gt_get_z, gt_bipush, gt_iaload, gt_imul, gt_iadd, gt_istore, gw_set, gt_iload, gt_ink, gt_iload_n, gt_iastore, gt_dup2, gt_vret, bkX11_writeExit_58, ka0_0, ra0_0_0, ka0_1, la0_1, (show Int32.toNatClampNeg 25 = 25 from rfl), (show Int32.toNatClampNeg 3 = 3 from rfl)]
  refine ⟨(⟨by decide, by decide⟩ : gw_in 25 20813), ?_⟩
  obtain ⟨w_1, hw_1, h⟩ := gw_lt h
  try rw [← hw_1]
  obtain ⟨c_2, h⟩ := gw_ife h
  refine ⟨c_2, ?_⟩
  obtain ⟨μ_3, hμ_3, h⟩ := gw_lt h
  try rw [← hμ_3]
  obtain ⟨c_4, h⟩ := gw_ife h
  refine ⟨c_4, ?_⟩
  obtain ⟨μ_5, hμ_5, h⟩ := gw_lt h
  try rw [← hμ_5]
  obtain ⟨c_6, h⟩ := gw_ife h
  refine ⟨c_6, ?_⟩
  obtain ⟨μ_7, hμ_7, h⟩ := gw_lt h
  try rw [← hμ_7]
  refine ⟨(⟨by decide, by decide⟩ : gw_in 3 20813), ?_⟩
  obtain ⟨c_8, h⟩ := gw_ife h
  refine ⟨c_8, ?_⟩
  obtain ⟨μ_9, hμ_9, h⟩ := gw_lt h
  try rw [← hμ_9]
  refine ⟨(⟨by decide, by decide⟩ : gw_in 25 20813), ?_⟩
  refine ⟨(⟨by decide, by decide⟩ : gw_in 25 20813), ?_⟩
  obtain ⟨μ_10, hμ_10, h⟩ := gw_lt h
  try rw [← hμ_10]
  obtain ⟨c_11, h⟩ := gw_ife h
  refine ⟨c_11, ?_⟩
  obtain ⟨c_12, h⟩ := gw_ife h
  refine ⟨c_12, ?_⟩
  obtain ⟨μ_13, hμ_13, h⟩ := gw_lt h
  try rw [← hμ_13]
  obtain rfl := gw_inj1 h
  exact ⟨hcc, hss, hq⟩
theorem B_X11_writeExit_17 {l : Launch} {x : gw_C} {d : Nat} {S : gw_S} {Q : Option Value → gw_S → gw_M → Prop} {K : Nat → gw_Kt} {mc ms cc ss : Nat} (hcc : cc ≤ mc) (hss : ss ≤ ms) (hK : gw_cl l x (d + 0) mc ms bsX11_writeExit Q K) {a0 : Nat} (hS0 : gw_sh S 11 a0) {n0 : Nat} : ∀ {n : Nat} {v1 v2 v3 v4} {μ : gw_M} {μ'}, F_X11_writeExit_17 n0 a0 n v1 v2 v3 v4 μ = some μ' → Q none S μ' → K 17 [.ref a0, .int v1, .int v2, .int v3, .int v4] [] S μ cc ss := by
  have ka0_0 : gw_kd S a0 = 11 := (hS0 0 _ rfl).1
  have ra0_0_0 : gw_rf S a0 0 = a0 + 1 := (hS0 0 _ rfl).2.2 (0, 1) (by decide)
  have ka0_1 : gw_kd S (a0 + 1) = 12 := (hS0 1 _ rfl).1
  have la0_1 : gw_ln S (a0 + 1) = 20813 := (hS0 1 _ rfl).2.1
  intro n
  induction n with
  | zero => intro v1 v2 v3 v4 μ μ' h hq; simp [F_X11_writeExit_17] at h
  | succ n ih =>
    intro v1 v2 v3 v4 μ μ' h hq
    simp only [F_X11_writeExit_17] at h
    refine hK _ _ _ _ _ _ _ ?_
    rw [fdX11_writeExit_17]
    simp only [gt_nil, true_and, eq_self, gt_iload, gt_ink, gw_nth, gt_sipush, gt_icmp, gt_aload_n, gt_rfk, gt_get_r, gt_get_i, gt_get_z, gt_iconst, gt_iadd, gt_iaload, gt_iastore, gt_iinc, gw_set, gt_goto, bkX11_writeExit_17, ka0_0, ra0_0_0, ka0_1, la0_1, (show Int32.toNatClampNeg 25 = 25 from rfl)]
    refine ⟨fun c_1 => ?_, fun c_1 => ?_⟩
    · replace h := gw_ifp2 (gw_c2_ge _ _) h c_1
      refine hK _ _ _ _ _ _ _ ?_
      rw [fdX11_writeExit_47]
      simp only [gt_nil, true_and, eq_self, gt_aload_n, gt_rfk, gw_nth, gt_get_r, gt_get_i, gt_get_z, gt_bipush, gt_dup2, gt_iaload, gt_iconst, gt_isub, gt_iastore, bkX11_writeExit_47, ka0_0, ra0_0_0, ka0_1, la0_1, (show Int32.toNatClampNeg 25 = 25 from rfl)]
      refine ⟨(⟨by decide, by decide⟩ : gw_in 25 20813), ?_⟩
      refine ⟨(⟨by decide, by decide⟩ : gw_in 25 20813), ?_⟩
      obtain ⟨μ_2, hμ_2, h⟩ := gw_lt h
      try rw [← hμ_2]
      exact B_X11_writeExit_58 hcc hss hK hS0 h hq
    · replace h := gw_ifn2 (gw_c2_ge _ _) h c_1
      obtain ⟨c_3, h⟩ := gw_ife h
      refine ⟨c_3, ?_⟩
      obtain ⟨c_4, h⟩ := gw_ife h
      refine ⟨c_4, ?_⟩
      obtain ⟨μ_5, hμ_5, h⟩ := gw_lt h
      try rw [← hμ_5]
      obtain ⟨w_6, hw_6, h⟩ := gw_lt h
      try rw [← hw_6]
      exact ih h hq
theorem ok_X11_writeExit {l : Launch} {x : gw_C} {d : Nat} {S : gw_S} {Q : Option Value → gw_S → gw_M → Prop} {v1 v2 v3 : Int32} {a0 : Nat} {n0 : Nat} {μ : gw_M} {μ'} (hS0 : gw_sh S 11 a0) (h : F_X11_writeExit n0 a0 v1 v2 v3 μ = some μ') (hq : Q none S μ') : gw_ok l x (d + 1) sgX11_writeExit 0 0 [.ref a0, .int v1, .int v2, .int v3] S μ Q := by
  refine gw_ok_of stX11_writeExit (lv0 := [.ref a0, .int v1, .int v2, .int v3, .retAddr 0]) (Nat.le_of_ble_eq_true rfl) rfl rfl ?_
  intro K hK
  have hcc : 0 ≤ 0 := Nat.zero_le _
  have hss : 0 ≤ 0 := Nat.zero_le _
  have ka0_0 : gw_kd S a0 = 11 := (hS0 0 _ rfl).1
  have ra0_0_0 : gw_rf S a0 0 = a0 + 1 := (hS0 0 _ rfl).2.2 (0, 1) (by decide)
  have ka0_1 : gw_kd S (a0 + 1) = 12 := (hS0 1 _ rfl).1
  have la0_1 : gw_ln S (a0 + 1) = 20813 := (hS0 1 _ rfl).2.1
  unfold F_X11_writeExit at h
  refine hK _ _ _ _ _ _ _ ?_
  rw [fdX11_writeExit_0]
  simp only [gt_nil, true_and, eq_self, gt_aload_n, gt_rfk, gw_nth, gt_get_r, gt_get_i, gt_get_z, gt_bipush, gt_iaload, gt_icmp, gt_sipush, gt_istore, gw_set, bkX11_writeExit_0, ka0_0, ra0_0_0, ka0_1, la0_1, (show Int32.toNatClampNeg 25 = 25 from rfl)]
  refine ⟨(⟨by decide, by decide⟩ : gw_in 25 20813), ?_⟩
  refine ⟨fun c_1 => ?_, fun c_1 => ?_⟩
  · replace h := gw_ifp2 (gw_c2_ne _ _) h c_1
    exact B_X11_writeExit_58 hcc hss hK hS0 h hq
  · replace h := gw_ifn2 (gw_c2_ne _ _) h c_1
    exact B_X11_writeExit_17 hcc hss hK hS0 h hq
def F_X11_see (n0 : Nat) (a0 : Nat) (v1 : Int32) (v2 : Int32) (μ : gw_M) : Option (gw_M) := (F_X11_writeExit n0 a0 0 v1 v2 μ).bind (fun (μ_2 : gw_M) => some μ_2)
theorem ok_X11_see {l : Launch} {x : gw_C} {d : Nat} {S : gw_S} {Q : Option Value → gw_S → gw_M → Prop} {v1 v2 : Int32} {a0 : Nat} {n0 : Nat} {μ : gw_M} {μ'} (hS0 : gw_sh S 11 a0) (h : F_X11_see n0 a0 v1 v2 μ = some μ') (hq : Q none S μ') : gw_ok l x (d + 2) sgX11_see 0 0 [.ref a0, .int v1, .int v2] S μ Q := by
  refine gw_ok_of stX11_see (lv0 := [.ref a0, .int v1, .int v2]) (Nat.le_of_ble_eq_true rfl) rfl rfl ?_
  intro K hK
  have hcc : 0 ≤ 0 := Nat.zero_le _
  have hss : 0 ≤ 0 := Nat.zero_le _
  have ka0_0 : gw_kd S a0 = 11 := (hS0 0 _ rfl).1
  unfold F_X11_see at h
  refine hK _ _ _ _ _ _ _ ?_
  rw [fdX11_see_0]
  simp only [gt_nil, true_and, eq_self, gt_aload_n, gt_rfk, gw_nth, gt_iconst, gt_iload_n, gt_ink, gt_v0, gt_v1, gt_v2, gt_v3, gt_v4, gt_v5, gt_vret, bkX11_see_0, ka0_0]
  obtain ⟨μ_2, e_3, h⟩ := gw_bnd h
  refine ⟨rfl, 0, 0, hcc, hss, ok_X11_writeExit hS0 e_3 ?_⟩
  simp only [gt_nil, true_and, eq_self, gt_vret, Option.toList, List.cons_append, List.nil_append, Nat.add_zero, ka0_0]
  obtain rfl := gw_inj1 h
  exact ⟨hcc, hss, hq⟩
def F_X11_deal_38 (n0 : Nat) (a0 : Nat) (v1 : Int32) (μ : gw_M) : Option (gw_M) := gw_let (gw_up μ (a0 + 1) 2 1) (fun (μ_1 : gw_M) => (if 0 ≤ ((828 : Int32) + v1) ∧ ((828 : Int32) + v1).toNatClampNeg < 20813 then gw_let ((μ_1 (a0 + 1) ((828 : Int32) + v1).toNatClampNeg)) (fun (w_3 : Int32) => (F_X11_guestAt n0 a0 1 μ_1).bind (fun (r_4 : Int32) => (if 0 ≤ (r_4 + (6 : Int32)) ∧ (r_4 + (6 : Int32)).toNatClampNeg < 20813 then (F_X11_isIn n0 w_3 0 ((μ_1 (a0 + 1) (r_4 + (6 : Int32)).toNatClampNeg) - (1 : Int32)) μ_1).bind (fun (r_9 : Int32) => (if r_9 = 0 then some μ_1 else (F_X11_guestAt n0 a0 1 μ_1).bind (fun (r_14 : Int32) => (if 0 ≤ (r_14 + (5 : Int32)) ∧ (r_14 + (5 : Int32)).toNatClampNeg < 20813 then gw_let (gw_up μ_1 (a0 + 1) (r_14 + (5 : Int32)).toNatClampNeg w_3) (fun (μ_19 : gw_M) => some μ_19) else none)))) else none))) else none))
def F_X11_deal (n0 : Nat) (a0 : Nat) (v1 : Int32) (v2 : Int32) (μ : gw_M) : Option (gw_M) := (F_X11_writeExit n0 a0 1 v1 v2 μ).bind (fun (μ_2 : gw_M) => gw_let (gw_up μ_2 (a0 + 1) 13 v1) (fun (μ_5 : gw_M) => gw_let (gw_up μ_5 (a0 + 1) 14 v2) (fun (μ_6 : gw_M) => (if ¬ v1 = 1 then F_X11_deal_38 n0 a0 v1 μ_6 else gw_let (gw_up μ_6 (a0 + 1) 16 (v2 / (4 : Int32))) (fun (μ_8 : gw_M) => F_X11_deal_38 n0 a0 v1 μ_8)))))
theorem B_X11_deal_38 {l : Launch} {x : gw_C} {d : Nat} {S : gw_S} {Q : Option Value → gw_S → gw_M → Prop} {K : Nat → gw_Kt} {mc ms cc ss : Nat} (hcc : cc ≤ mc) (hss : ss ≤ ms) (hK : gw_cl l x (d + 1) mc ms bsX11_deal Q K) {a0 : Nat} (hS0 : gw_sh S 11 a0) {n0 : Nat} {v1} {u2 u3 : Value} {μ : gw_M} {μ'} (h : F_X11_deal_38 n0 a0 v1 μ = some μ') (hq : Q none S μ') : K 38 [.ref a0, .int v1, u2, u3] [] S μ cc ss := by
  have ka0_0 : gw_kd S a0 = 11 := (hS0 0 _ rfl).1
  have ra0_0_0 : gw_rf S a0 0 = a0 + 1 := (hS0 0 _ rfl).2.2 (0, 1) (by decide)
  have ka0_1 : gw_kd S (a0 + 1) = 12 := (hS0 1 _ rfl).1
  have la0_1 : gw_ln S (a0 + 1) = 20813 := (hS0 1 _ rfl).2.1
  unfold F_X11_deal_38 at h
  refine hK _ _ _ _ _ _ _ ?_
  rw [fdX11_deal_38]
  simp only [gt_nil, true_and, eq_self, gt_aload_n, gt_rfk, gw_nth, gt_get_r, gt_get_i, gt_get_z, gt_iconst, gt_iastore, gt_sipush, gt_iload_n, gt_ink, gt_iadd, gt_iaload, gt_istore_n, gw_set, gt_v0, gt_v1, gt_v2, gt_v3, gt_v4, gt_v5, gt_bipush, gt_isub, gt_s1_0, gt_s2_0, gt_s3_0, gt_s4_0, gt_s1_1, gt_s2_1, gt_s3_1, gt_s4_1, gt_acpy, gt_if, bkX11_deal_38, ka0_0, ra0_0_0, ka0_1, la0_1, (show Int32.toNatClampNeg 2 = 2 from rfl)]
  refine ⟨(⟨by decide, by decide⟩ : gw_in 2 20813), ?_⟩
  obtain ⟨μ_1, hμ_1, h⟩ := gw_lt h
  try rw [← hμ_1]
  obtain ⟨c_2, h⟩ := gw_ife h
  refine ⟨c_2, ?_⟩
  obtain ⟨w_3, hw_3, h⟩ := gw_lt h
  try rw [← hw_3]
  obtain ⟨r_4, e_6, h⟩ := gw_bnd h
  refine ⟨rfl, 0, 0, hcc, hss, ok_X11_guestAt hS0 e_6 ?_⟩
  simp only [gt_nil, true_and, eq_self, gt_bipush, gt_iadd, gt_iaload, gt_iconst, gt_isub, gt_s1_0, gt_s2_0, gt_s3_0, gt_s4_0, gt_s1_1, gt_s2_1, gt_s3_1, gt_s4_1, gt_acpy, gt_if, gt_aload_n, gt_rfk, gw_nth, gt_get_r, gt_get_i, gt_get_z, gt_v0, gt_v1, gt_v2, gt_v3, gt_v4, gt_v5, gt_iload_n, gt_ink, gt_iastore, Option.toList, List.cons_append, List.nil_append, Nat.add_zero, ka0_0, ra0_0_0, ka0_1, la0_1, (show Int32.toNatClampNeg 2 = 2 from rfl)]
  obtain ⟨c_8, h⟩ := gw_ife h
  refine ⟨c_8, ?_⟩
  obtain ⟨r_9, e_11, h⟩ := gw_bnd h
  refine ⟨rfl, 0, 0, hcc, hss, ok_X11_isIn e_11 ?_⟩
  intro hbr_9
  simp only [gt_nil, true_and, eq_self, gt_if, gt_aload_n, gt_rfk, gw_nth, gt_get_r, gt_get_i, gt_get_z, gt_iconst, gt_v0, gt_v1, gt_v2, gt_v3, gt_v4, gt_v5, gt_iadd, gt_iload_n, gt_ink, gt_iastore, Option.toList, List.cons_append, List.nil_append, Nat.add_zero, ka0_0, ra0_0_0, ka0_1, la0_1, (show Int32.toNatClampNeg 2 = 2 from rfl)]
  refine ⟨fun c_13 => ?_, fun c_13 => ?_⟩
  · replace h := gw_ifp h c_13
    refine hK _ _ _ _ _ _ _ ?_
    rw [fdX11_deal_92]
    simp only [gt_nil, true_and, eq_self, gt_vret, bkX11_deal_92, ka0_0, ra0_0_0, ka0_1, la0_1, (show Int32.toNatClampNeg 2 = 2 from rfl)]
    obtain rfl := gw_inj1 h
    exact ⟨hcc, hss, hq⟩
  · replace h := gw_ifn h c_13
    obtain ⟨r_14, e_16, h⟩ := gw_bnd h
    refine ⟨rfl, 0, 0, hcc, hss, ok_X11_guestAt hS0 e_16 ?_⟩
    simp only [gt_nil, true_and, eq_self, gt_iconst, gt_iadd, gt_iload_n, gt_ink, gw_nth, gt_iastore, Option.toList, List.cons_append, List.nil_append, Nat.add_zero, ka0_0, ra0_0_0, ka0_1, la0_1, (show Int32.toNatClampNeg 2 = 2 from rfl)]
    obtain ⟨c_18, h⟩ := gw_ife h
    refine ⟨c_18, ?_⟩
    obtain ⟨μ_19, hμ_19, h⟩ := gw_lt h
    try rw [← hμ_19]
    refine hK _ _ _ _ _ _ _ ?_
    rw [fdX11_deal_92]
    simp only [gt_nil, true_and, eq_self, gt_vret, bkX11_deal_92, ka0_0, ra0_0_0, ka0_1, la0_1, (show Int32.toNatClampNeg 2 = 2 from rfl)]
    obtain rfl := gw_inj1 h
    exact ⟨hcc, hss, hq⟩
theorem ok_X11_deal {l : Launch} {x : gw_C} {d : Nat} {S : gw_S} {Q : Option Value → gw_S → gw_M → Prop} {v1 v2 : Int32} {a0 : Nat} {n0 : Nat} {μ : gw_M} {μ'} (hS0 : gw_sh S 11 a0) (h : F_X11_deal n0 a0 v1 v2 μ = some μ') (hq : Q none S μ') : gw_ok l x (d + 2) sgX11_deal 0 0 [.ref a0, .int v1, .int v2] S μ Q := by
  refine gw_ok_of stX11_deal (lv0 := [.ref a0, .int v1, .int v2, .retAddr 0]) (Nat.le_of_ble_eq_true rfl) rfl rfl ?_
  intro K hK
  have hcc : 0 ≤ 0 := Nat.zero_le _
  have hss : 0 ≤ 0 := Nat.zero_le _
  have ka0_0 : gw_kd S a0 = 11 := (hS0 0 _ rfl).1
  have ra0_0_0 : gw_rf S a0 0 = a0 + 1 := (hS0 0 _ rfl).2.2 (0, 1) (by decide)
  have ka0_1 : gw_kd S (a0 + 1) = 12 := (hS0 1 _ rfl).1
  have la0_1 : gw_ln S (a0 + 1) = 20813 := (hS0 1 _ rfl).2.1
  unfold F_X11_deal at h
  refine hK _ _ _ _ _ _ _ ?_
  rw [fdX11_deal_0]
  simp only [gt_nil, true_and, eq_self, gt_aload_n, gt_rfk, gw_nth, gt_iconst, gt_iload_n, gt_ink, gt_v0, gt_v1, gt_v2, gt_v3, gt_v4, gt_v5, gt_get_r, gt_get_i, gt_get_z, gt_bipush, gt_iastore, gt_icmp, gt_idiv, bkX11_deal_0, ka0_0, ra0_0_0, ka0_1, la0_1, (show Int32.toNatClampNeg 13 = 13 from rfl), (show Int32.toNatClampNeg 14 = 14 from rfl), (show Int32.toNatClampNeg 16 = 16 from rfl)]
  obtain ⟨μ_2, e_3, h⟩ := gw_bnd h
  refine ⟨rfl, 0, 0, hcc, hss, ok_X11_writeExit hS0 e_3 ?_⟩
  simp only [gt_nil, true_and, eq_self, gt_aload_n, gt_rfk, gw_nth, gt_get_r, gt_get_i, gt_get_z, gt_bipush, gt_iload_n, gt_ink, gt_iastore, gt_iconst, gt_icmp, gt_idiv, Option.toList, List.cons_append, List.nil_append, Nat.add_zero, ka0_0, ra0_0_0, ka0_1, la0_1, (show Int32.toNatClampNeg 13 = 13 from rfl), (show Int32.toNatClampNeg 14 = 14 from rfl), (show Int32.toNatClampNeg 16 = 16 from rfl)]
  refine ⟨(⟨by decide, by decide⟩ : gw_in 13 20813), ?_⟩
  obtain ⟨μ_5, hμ_5, h⟩ := gw_lt h
  try rw [← hμ_5]
  refine ⟨(⟨by decide, by decide⟩ : gw_in 14 20813), ?_⟩
  obtain ⟨μ_6, hμ_6, h⟩ := gw_lt h
  try rw [← hμ_6]
  refine ⟨fun c_7 => ?_, fun c_7 => ?_⟩
  · replace h := gw_ifp2 (gw_c2_ne _ _) h c_7
    exact B_X11_deal_38 hcc hss hK hS0 h hq
  · replace h := gw_ifn2 (gw_c2_ne _ _) h c_7
    refine ⟨by decide, ?_⟩
    refine ⟨(⟨by decide, by decide⟩ : gw_in 16 20813), ?_⟩
    obtain ⟨μ_8, hμ_8, h⟩ := gw_lt h
    try rw [← hμ_8]
    exact B_X11_deal_38 hcc hss hK hS0 h hq
def F_X11_whoSees (n0 : Nat) (a0 : Nat) (v1 : Int32) (μ : gw_M) : Option (Int32) := (F_X11_has n0 (μ (a0 + 1) 18) v1 μ).bind (fun (r_1 : Int32) => (if r_1 = 0 then (F_X11_has n0 (μ (a0 + 1) 17) v1 μ).bind (fun (r_6 : Int32) => (if r_6 = 0 then some 2 else some 0)) else some 1))
theorem ok_X11_whoSees {l : Launch} {x : gw_C} {d : Nat} {S : gw_S} {Q : Option Value → gw_S → gw_M → Prop} {v1 : Int32} {a0 : Nat} {n0 : Nat} {μ : gw_M} {r} (hS0 : gw_sh S 11 a0) (h : F_X11_whoSees n0 a0 v1 μ = some r) (hq : Q (some (.int r)) S μ) : gw_ok l x (d + 2) sgX11_whoSees 0 0 [.ref a0, .int v1] S μ Q := by
  refine gw_ok_of stX11_whoSees (lv0 := [.ref a0, .int v1]) (Nat.le_of_ble_eq_true rfl) rfl rfl ?_
  intro K hK
  have hcc : 0 ≤ 0 := Nat.zero_le _
  have hss : 0 ≤ 0 := Nat.zero_le _
  have ka0_0 : gw_kd S a0 = 11 := (hS0 0 _ rfl).1
  have ra0_0_0 : gw_rf S a0 0 = a0 + 1 := (hS0 0 _ rfl).2.2 (0, 1) (by decide)
  have ka0_1 : gw_kd S (a0 + 1) = 12 := (hS0 1 _ rfl).1
  have la0_1 : gw_ln S (a0 + 1) = 20813 := (hS0 1 _ rfl).2.1
  unfold F_X11_whoSees at h
  refine hK _ _ _ _ _ _ _ ?_
  rw [fdX11_whoSees_0]
  simp only [gt_nil, true_and, eq_self, gt_aload_n, gt_rfk, gw_nth, gt_get_r, gt_get_i, gt_get_z, gt_bipush, gt_iaload, gt_iload_n, gt_ink, gt_s1_0, gt_s2_0, gt_s3_0, gt_s4_0, gt_s1_1, gt_s2_1, gt_s3_1, gt_s4_1, gt_acpy, gt_if, gt_iconst, gt_goto, bkX11_whoSees_0, ka0_0, ra0_0_0, ka0_1, la0_1, (show Int32.toNatClampNeg 17 = 17 from rfl), (show Int32.toNatClampNeg 18 = 18 from rfl)]
  refine ⟨(⟨by decide, by decide⟩ : gw_in 18 20813), ?_⟩
  obtain ⟨r_1, e_3, h⟩ := gw_bnd h
  refine ⟨rfl, 0, 0, hcc, hss, ok_X11_has e_3 ?_⟩
  intro hbr_1
  simp only [gt_nil, true_and, eq_self, gt_if, gt_iconst, gt_goto, Option.toList, List.cons_append, List.nil_append, Nat.add_zero, ka0_0, ra0_0_0, ka0_1, la0_1, (show Int32.toNatClampNeg 17 = 17 from rfl), (show Int32.toNatClampNeg 18 = 18 from rfl)]
  refine ⟨fun c_5 => ?_, fun c_5 => ?_⟩
  · replace h := gw_ifp h c_5
    refine hK _ _ _ _ _ _ _ ?_
    rw [fdX11_whoSees_18]
    simp only [gt_nil, true_and, eq_self, gt_aload_n, gt_rfk, gw_nth, gt_get_r, gt_get_i, gt_get_z, gt_bipush, gt_iaload, gt_iload_n, gt_ink, gt_s1_0, gt_s2_0, gt_s3_0, gt_s4_0, gt_s1_1, gt_s2_1, gt_s3_1, gt_s4_1, gt_acpy, gt_if, gt_iconst, gt_goto, bkX11_whoSees_18, ka0_0, ra0_0_0, ka0_1, la0_1, (show Int32.toNatClampNeg 17 = 17 from rfl), (show Int32.toNatClampNeg 18 = 18 from rfl)]
    refine ⟨(⟨by decide, by decide⟩ : gw_in 17 20813), ?_⟩
    obtain ⟨r_6, e_8, h⟩ := gw_bnd h
    refine ⟨rfl, 0, 0, hcc, hss, ok_X11_has e_8 ?_⟩
    intro hbr_6
    simp only [gt_nil, true_and, eq_self, gt_if, gt_iconst, gt_goto, Option.toList, List.cons_append, List.nil_append, Nat.add_zero, ka0_0, ra0_0_0, ka0_1, la0_1, (show Int32.toNatClampNeg 17 = 17 from rfl), (show Int32.toNatClampNeg 18 = 18 from rfl)]
    refine ⟨fun c_10 => ?_, fun c_10 => ?_⟩
    · replace h := gw_ifp h c_10
      refine hK _ _ _ _ _ _ _ ?_
      rw [fdX11_whoSees_36]
      simp only [gt_nil, true_and, eq_self, gt_iconst, bkX11_whoSees_36, ka0_0, ra0_0_0, ka0_1, la0_1, (show Int32.toNatClampNeg 17 = 17 from rfl), (show Int32.toNatClampNeg 18 = 18 from rfl)]
      refine hK _ _ _ _ _ _ _ ?_
      rw [fdX11_whoSees_37]
      simp only [gt_nil, true_and, eq_self, gt_iret, gt_retz, bkX11_whoSees_37, ka0_0, ra0_0_0, ka0_1, la0_1, (show Int32.toNatClampNeg 17 = 17 from rfl), (show Int32.toNatClampNeg 18 = 18 from rfl)]
      obtain rfl := gw_inj1 h
      exact ⟨hcc, hss, hq⟩
    · replace h := gw_ifn h c_10
      refine hK _ _ _ _ _ _ _ ?_
      rw [fdX11_whoSees_37]
      simp only [gt_nil, true_and, eq_self, gt_iret, gt_retz, bkX11_whoSees_37, ka0_0, ra0_0_0, ka0_1, la0_1, (show Int32.toNatClampNeg 17 = 17 from rfl), (show Int32.toNatClampNeg 18 = 18 from rfl)]
      obtain rfl := gw_inj1 h
      exact ⟨hcc, hss, hq⟩
  · replace h := gw_ifn h c_5
    refine hK _ _ _ _ _ _ _ ?_
    rw [fdX11_whoSees_37]
    simp only [gt_nil, true_and, eq_self, gt_iret, gt_retz, bkX11_whoSees_37, ka0_0, ra0_0_0, ka0_1, la0_1, (show Int32.toNatClampNeg 17 = 17 from rfl), (show Int32.toNatClampNeg 18 = 18 from rfl)]
    obtain rfl := gw_inj1 h
    exact ⟨hcc, hss, hq⟩
def F_X11_eventOuter (n0 : Nat) (a0 : Nat) (v1 : Int32) (μ : gw_M) : Option (Int32 × gw_M) := (F_X11_has n0 (μ (a0 + 1) 17) v1 μ).bind (fun (r_1 : Int32) => (if ¬ r_1 = 0 then (F_X11_see n0 a0 5 v1 μ).bind (fun (μ_7 : gw_M) => some (0, μ_7)) else some (2, μ)))
theorem ok_X11_eventOuter {l : Launch} {x : gw_C} {d : Nat} {S : gw_S} {Q : Option Value → gw_S → gw_M → Prop} {v1 : Int32} {a0 : Nat} {n0 : Nat} {μ : gw_M} {r μ'} (hS0 : gw_sh S 11 a0) (h : F_X11_eventOuter n0 a0 v1 μ = some (r, μ')) (hq : Q (some (.int r)) S μ') : gw_ok l x (d + 3) sgX11_eventOuter 0 0 [.ref a0, .int v1] S μ Q := by
  refine gw_ok_of stX11_eventOuter (lv0 := [.ref a0, .int v1]) (Nat.le_of_ble_eq_true rfl) rfl rfl ?_
  intro K hK
  have hcc : 0 ≤ 0 := Nat.zero_le _
  have hss : 0 ≤ 0 := Nat.zero_le _
  have ka0_0 : gw_kd S a0 = 11 := (hS0 0 _ rfl).1
  have ra0_0_0 : gw_rf S a0 0 = a0 + 1 := (hS0 0 _ rfl).2.2 (0, 1) (by decide)
  have ka0_1 : gw_kd S (a0 + 1) = 12 := (hS0 1 _ rfl).1
  have la0_1 : gw_ln S (a0 + 1) = 20813 := (hS0 1 _ rfl).2.1
  unfold F_X11_eventOuter at h
  refine hK _ _ _ _ _ _ _ ?_
  rw [fdX11_eventOuter_0]
  simp only [gt_nil, true_and, eq_self, gt_aload_n, gt_rfk, gw_nth, gt_get_r, gt_get_i, gt_get_z, gt_bipush, gt_iaload, gt_iload_n, gt_ink, gt_s1_0, gt_s2_0, gt_s3_0, gt_s4_0, gt_s1_1, gt_s2_1, gt_s3_1, gt_s4_1, gt_acpy, gt_if, gt_iconst, gt_iret, gt_retz, bkX11_eventOuter_0, ka0_0, ra0_0_0, ka0_1, la0_1, (show Int32.toNatClampNeg 17 = 17 from rfl)]
  refine ⟨(⟨by decide, by decide⟩ : gw_in 17 20813), ?_⟩
  obtain ⟨r_1, e_3, h⟩ := gw_bnd h
  refine ⟨rfl, 0, 0, hcc, hss, ok_X11_has e_3 ?_⟩
  intro hbr_1
  simp only [gt_nil, true_and, eq_self, gt_if, gt_iconst, gt_iret, gt_retz, Option.toList, List.cons_append, List.nil_append, Nat.add_zero, ka0_0, ra0_0_0, ka0_1, la0_1, (show Int32.toNatClampNeg 17 = 17 from rfl)]
  refine ⟨fun c_5 => ?_, fun c_5 => ?_⟩
  · replace h := gw_ifp h c_5
    refine hK _ _ _ _ _ _ _ ?_
    rw [fdX11_eventOuter_16]
    simp only [gt_nil, true_and, eq_self, gt_aload_n, gt_rfk, gw_nth, gt_iconst, gt_iload_n, gt_ink, gt_v0, gt_v1, gt_v2, gt_v3, gt_v4, gt_v5, gt_iret, gt_retz, bkX11_eventOuter_16, ka0_0, ra0_0_0, ka0_1, la0_1, (show Int32.toNatClampNeg 17 = 17 from rfl)]
    obtain ⟨μ_7, e_8, h⟩ := gw_bnd h
    refine ⟨rfl, 0, 0, hcc, hss, ok_X11_see hS0 e_8 ?_⟩
    simp only [gt_nil, true_and, eq_self, gt_iconst, gt_iret, gt_retz, Option.toList, List.cons_append, List.nil_append, Nat.add_zero, ka0_0, ra0_0_0, ka0_1, la0_1, (show Int32.toNatClampNeg 17 = 17 from rfl)]
    obtain ⟨rfl, rfl⟩ := gw_inj2 h
    exact ⟨hcc, hss, hq⟩
  · replace h := gw_ifn h c_5
    obtain ⟨rfl, rfl⟩ := gw_inj2 h
    exact ⟨hcc, hss, hq⟩
def F_X11_eventInner_17 (n0 : Nat) (a0 : Nat) (v1 : Int32) (v2 : Int32) (μ : gw_M) : Option (Int32 × gw_M) := (if ¬ v2 = 0 then some (v2, μ) else (F_X11_see n0 a0 4 v1 μ).bind (fun (μ_3 : gw_M) => some (v2, μ_3)))
def F_X11_eventInner (n0 : Nat) (a0 : Nat) (v1 : Int32) (μ : gw_M) : Option (Int32 × gw_M) := (F_X11_whoSees n0 a0 v1 μ).bind (fun (r_1 : Int32) => (if ¬ r_1 = 1 then F_X11_eventInner_17 n0 a0 v1 r_1 μ else (F_X11_deal n0 a0 4 v1 μ).bind (fun (μ_7 : gw_M) => F_X11_eventInner_17 n0 a0 v1 r_1 μ_7)))
theorem B_X11_eventInner_17 {l : Launch} {x : gw_C} {d : Nat} {S : gw_S} {Q : Option Value → gw_S → gw_M → Prop} {K : Nat → gw_Kt} {mc ms cc ss : Nat} (hcc : cc ≤ mc) (hss : ss ≤ ms) (hK : gw_cl l x (d + 2) mc ms bsX11_eventInner Q K) {a0 : Nat} (hS0 : gw_sh S 11 a0) {n0 : Nat} {v1 v2} {μ : gw_M} {r μ'} (h : F_X11_eventInner_17 n0 a0 v1 v2 μ = some (r, μ')) (hq : Q (some (.int r)) S μ') : K 17 [.ref a0, .int v1, .int v2] [] S μ cc ss := by
  have ka0_0 : gw_kd S a0 = 11 := (hS0 0 _ rfl).1
  unfold F_X11_eventInner_17 at h
  refine hK _ _ _ _ _ _ _ ?_
  rw [fdX11_eventInner_17]
  simp only [gt_nil, true_and, eq_self, gt_iload_n, gt_ink, gw_nth, gt_if, gt_aload_n, gt_rfk, gt_iconst, gt_v0, gt_v1, gt_v2, gt_v3, gt_v4, gt_v5, bkX11_eventInner_17, ka0_0]
  refine ⟨fun c_1 => ?_, fun c_1 => ?_⟩
  · replace h := gw_ifp h c_1
    refine hK _ _ _ _ _ _ _ ?_
    rw [fdX11_eventInner_27]
    simp only [gt_nil, true_and, eq_self, gt_iload_n, gt_ink, gw_nth, gt_iret, gt_retz, bkX11_eventInner_27, ka0_0]
    obtain ⟨rfl, rfl⟩ := gw_inj2 h
    exact ⟨hcc, hss, hq⟩
  · replace h := gw_ifn h c_1
    obtain ⟨μ_3, e_4, h⟩ := gw_bnd h
    refine ⟨rfl, 0, 0, hcc, hss, ok_X11_see hS0 e_4 ?_⟩
    simp only [gt_nil, true_and, eq_self, Option.toList, List.cons_append, List.nil_append, Nat.add_zero, ka0_0]
    refine hK _ _ _ _ _ _ _ ?_
    rw [fdX11_eventInner_27]
    simp only [gt_nil, true_and, eq_self, gt_iload_n, gt_ink, gw_nth, gt_iret, gt_retz, bkX11_eventInner_27, ka0_0]
    obtain ⟨rfl, rfl⟩ := gw_inj2 h
    exact ⟨hcc, hss, hq⟩
theorem ok_X11_eventInner {l : Launch} {x : gw_C} {d : Nat} {S : gw_S} {Q : Option Value → gw_S → gw_M → Prop} {v1 : Int32} {a0 : Nat} {n0 : Nat} {μ : gw_M} {r μ'} (hS0 : gw_sh S 11 a0) (h : F_X11_eventInner n0 a0 v1 μ = some (r, μ')) (hq : Q (some (.int r)) S μ') : gw_ok l x (d + 3) sgX11_eventInner 0 0 [.ref a0, .int v1] S μ Q := by
  refine gw_ok_of stX11_eventInner (lv0 := [.ref a0, .int v1, .retAddr 0]) (Nat.le_of_ble_eq_true rfl) rfl rfl ?_
  intro K hK
  have hcc : 0 ≤ 0 := Nat.zero_le _
  have hss : 0 ≤ 0 := Nat.zero_le _
  have ka0_0 : gw_kd S a0 = 11 := (hS0 0 _ rfl).1
  unfold F_X11_eventInner at h
  refine hK _ _ _ _ _ _ _ ?_
  rw [fdX11_eventInner_0]
  simp only [gt_nil, true_and, eq_self, gt_aload_n, gt_rfk, gw_nth, gt_iload_n, gt_ink, gt_v0, gt_v1, gt_v2, gt_v3, gt_v4, gt_v5, gt_istore_n, gw_set, gt_iconst, gt_icmp, bkX11_eventInner_0, ka0_0]
  obtain ⟨r_1, e_3, h⟩ := gw_bnd h
  refine ⟨rfl, 0, 0, hcc, hss, ok_X11_whoSees hS0 e_3 ?_⟩
  simp only [gt_nil, true_and, eq_self, gt_istore_n, gw_set, gt_iload_n, gt_ink, gw_nth, gt_iconst, gt_icmp, gt_aload_n, gt_rfk, gt_v0, gt_v1, gt_v2, gt_v3, gt_v4, gt_v5, Option.toList, List.cons_append, List.nil_append, Nat.add_zero, ka0_0]
  refine ⟨fun c_5 => ?_, fun c_5 => ?_⟩
  · replace h := gw_ifp2 (gw_c2_ne _ _) h c_5
    exact B_X11_eventInner_17 hcc hss hK hS0 h hq
  · replace h := gw_ifn2 (gw_c2_ne _ _) h c_5
    obtain ⟨μ_7, e_8, h⟩ := gw_bnd h
    refine ⟨rfl, 0, 0, hcc, hss, ok_X11_deal hS0 e_8 ?_⟩
    simp only [gt_nil, true_and, eq_self, Option.toList, List.cons_append, List.nil_append, Nat.add_zero, ka0_0]
    exact B_X11_eventInner_17 hcc hss hK hS0 h hq
def F_X11_eventNow_23 (n0 : Nat) (a0 : Nat) (v1 : Int32) (s0 : Int32) (μ : gw_M) : Option (Int32 × gw_M) := (if 0 ≤ (((32 : Int32) + ((3 : Int32) * v1)) + s0) ∧ (((32 : Int32) + ((3 : Int32) * v1)) + s0).toNatClampNeg < 20813 then (if 0 ≤ (((32 : Int32) + ((3 : Int32) * v1)) + s0) ∧ (((32 : Int32) + ((3 : Int32) * v1)) + s0).toNatClampNeg < 20813 then gw_let (gw_up μ (a0 + 1) (((32 : Int32) + ((3 : Int32) * v1)) + s0).toNatClampNeg ((μ (a0 + 1) (((32 : Int32) + ((3 : Int32) * v1)) + s0).toNatClampNeg) + (1 : Int32))) (fun (μ_3 : gw_M) => some (s0, μ_3)) else none) else none)
def F_X11_eventNow (n0 : Nat) (a0 : Nat) (v1 : Int32) (μ : gw_M) : Option (Int32 × gw_M) := (if ¬ (μ (a0 + 1) 2) = 1 then (gw_bi (F_X11_eventInner n0 a0 v1 μ) (fun (r_2 : Int32) (μ_3 : gw_M) => F_X11_eventNow_23 n0 a0 v1 r_2 μ_3)) else (gw_bi (F_X11_eventOuter n0 a0 v1 μ) (fun (r_6 : Int32) (μ_7 : gw_M) => F_X11_eventNow_23 n0 a0 v1 r_6 μ_7)))
theorem B_X11_eventNow_23 {l : Launch} {x : gw_C} {d : Nat} {S : gw_S} {Q : Option Value → gw_S → gw_M → Prop} {K : Nat → gw_Kt} {mc ms cc ss : Nat} (hcc : cc ≤ mc) (hss : ss ≤ ms) (hK : gw_cl l x (d + 3) mc ms bsX11_eventNow Q K) {a0 : Nat} (hS0 : gw_sh S 11 a0) {n0 : Nat} {v1 s0} {u2 : Value} {μ : gw_M} {r μ'} (h : F_X11_eventNow_23 n0 a0 v1 s0 μ = some (r, μ')) (hq : Q (some (.int r)) S μ') : K 23 [.ref a0, .int v1, u2] [.int s0] S μ cc ss := by
  have ka0_0 : gw_kd S a0 = 11 := (hS0 0 _ rfl).1
  have ra0_0_0 : gw_rf S a0 0 = a0 + 1 := (hS0 0 _ rfl).2.2 (0, 1) (by decide)
  have ka0_1 : gw_kd S (a0 + 1) = 12 := (hS0 1 _ rfl).1
  have la0_1 : gw_ln S (a0 + 1) = 20813 := (hS0 1 _ rfl).2.1
  unfold F_X11_eventNow_23 at h
  refine hK _ _ _ _ _ _ _ ?_
  rw [fdX11_eventNow_23]
  simp only [gt_nil, true_and, eq_self, gt_istore_n, gw_set, gt_aload_n, gt_rfk, gw_nth, gt_get_r, gt_get_i, gt_get_z, gt_bipush, gt_iconst, gt_iload_n, gt_ink, gt_imul, gt_iadd, gt_dup2, gt_iaload, gt_iastore, gt_iret, gt_retz, bkX11_eventNow_23, ka0_0, ra0_0_0, ka0_1, la0_1]
  obtain ⟨c_1, h⟩ := gw_ife h
  refine ⟨c_1, ?_⟩
  obtain ⟨c_2, h⟩ := gw_ife h
  refine ⟨c_2, ?_⟩
  obtain ⟨μ_3, hμ_3, h⟩ := gw_lt h
  try rw [← hμ_3]
  obtain ⟨rfl, rfl⟩ := gw_inj2 h
  exact ⟨hcc, hss, hq⟩
theorem ok_X11_eventNow {l : Launch} {x : gw_C} {d : Nat} {S : gw_S} {Q : Option Value → gw_S → gw_M → Prop} {v1 : Int32} {a0 : Nat} {n0 : Nat} {μ : gw_M} {r μ'} (hS0 : gw_sh S 11 a0) (h : F_X11_eventNow n0 a0 v1 μ = some (r, μ')) (hq : Q (some (.int r)) S μ') : gw_ok l x (d + 4) sgX11_eventNow 0 0 [.ref a0, .int v1] S μ Q := by
  refine gw_ok_of stX11_eventNow (lv0 := [.ref a0, .int v1, .retAddr 0]) (Nat.le_of_ble_eq_true rfl) rfl rfl ?_
  intro K hK
  have hcc : 0 ≤ 0 := Nat.zero_le _
  have hss : 0 ≤ 0 := Nat.zero_le _
  have ka0_0 : gw_kd S a0 = 11 := (hS0 0 _ rfl).1
  have ra0_0_0 : gw_rf S a0 0 = a0 + 1 := (hS0 0 _ rfl).2.2 (0, 1) (by decide)
  have ka0_1 : gw_kd S (a0 + 1) = 12 := (hS0 1 _ rfl).1
  have la0_1 : gw_ln S (a0 + 1) = 20813 := (hS0 1 _ rfl).2.1
  unfold F_X11_eventNow at h
  refine hK _ _ _ _ _ _ _ ?_
  rw [fdX11_eventNow_0]
  simp only [gt_nil, true_and, eq_self, gt_aload_n, gt_rfk, gw_nth, gt_get_r, gt_get_i, gt_get_z, gt_iconst, gt_iaload, gt_icmp, gt_iload_n, gt_ink, gt_v0, gt_v1, gt_v2, gt_v3, gt_v4, gt_v5, gt_goto, bkX11_eventNow_0, ka0_0, ra0_0_0, ka0_1, la0_1, (show Int32.toNatClampNeg 2 = 2 from rfl)]
  refine ⟨(⟨by decide, by decide⟩ : gw_in 2 20813), ?_⟩
  refine ⟨fun c_1 => ?_, fun c_1 => ?_⟩
  · replace h := gw_ifp2 (gw_c2_ne _ _) h c_1
    refine hK _ _ _ _ _ _ _ ?_
    rw [fdX11_eventNow_18]
    simp only [gt_nil, true_and, eq_self, gt_aload_n, gt_rfk, gw_nth, gt_iload_n, gt_ink, gt_v0, gt_v1, gt_v2, gt_v3, gt_v4, gt_v5, bkX11_eventNow_18, ka0_0, ra0_0_0, ka0_1, la0_1, (show Int32.toNatClampNeg 2 = 2 from rfl)]
    obtain ⟨r_2, μ_3, e_4, h⟩ := gw_bnd2 h
    refine ⟨rfl, 0, 0, hcc, hss, ok_X11_eventInner hS0 e_4 ?_⟩
    simp only [gt_nil, true_and, eq_self, Option.toList, List.cons_append, List.nil_append, Nat.add_zero, ka0_0, ra0_0_0, ka0_1, la0_1, (show Int32.toNatClampNeg 2 = 2 from rfl)]
    exact B_X11_eventNow_23 hcc hss hK hS0 h hq
  · replace h := gw_ifn2 (gw_c2_ne _ _) h c_1
    obtain ⟨r_6, μ_7, e_8, h⟩ := gw_bnd2 h
    refine ⟨rfl, 0, 0, hcc, hss, ok_X11_eventOuter hS0 e_8 ?_⟩
    simp only [gt_nil, true_and, eq_self, gt_goto, Option.toList, List.cons_append, List.nil_append, Nat.add_zero, ka0_0, ra0_0_0, ka0_1, la0_1, (show Int32.toNatClampNeg 2 = 2 from rfl)]
    exact B_X11_eventNow_23 hcc hss hK hS0 h hq
def F_X11_hear_54 (n0 : Nat) (a0 : Nat) (v1 : Int32) (μ : gw_M) : Option (gw_M) := (if 0 ≤ ((837 : Int32) + (μ (a0 + 1) 24)) ∧ ((837 : Int32) + (μ (a0 + 1) 24)).toNatClampNeg < 20813 then gw_let (gw_up μ (a0 + 1) ((837 : Int32) + (μ (a0 + 1) 24)).toNatClampNeg v1) (fun (μ_2 : gw_M) => gw_let (gw_up μ_2 (a0 + 1) 24 ((μ_2 (a0 + 1) 24) + (1 : Int32))) (fun (μ_3 : gw_M) => some μ_3)) else none)
def F_X11_hear_16 (n0 : Nat) (a0 : Nat) : Nat → Int32 → Int32 → gw_M → Option (gw_M)
  | 0, _, _, _ => none
  | n + 1, v1, v2, μ => (if 860 ≤ v2 then gw_let (gw_up μ (a0 + 1) 24 ((μ (a0 + 1) 24) - (1 : Int32))) (fun (μ_2 : gw_M) => F_X11_hear_54 n0 a0 v1 μ_2) else (if 0 ≤ (v2 + (1 : Int32)) ∧ (v2 + (1 : Int32)).toNatClampNeg < 20813 then (if 0 ≤ v2 ∧ v2.toNatClampNeg < 20813 then gw_let (gw_up μ (a0 + 1) v2.toNatClampNeg (μ (a0 + 1) (v2 + (1 : Int32)).toNatClampNeg)) (fun (μ_5 : gw_M) => gw_let (v2 + 1) (fun (w_6 : Int32) => F_X11_hear_16 n0 a0 n v1 w_6 μ_5)) else none) else none))
def F_X11_hear (n0 : Nat) (a0 : Nat) (v1 : Int32) (μ : gw_M) : Option (gw_M) := (if ¬ (μ (a0 + 1) 24) = 24 then F_X11_hear_54 n0 a0 v1 μ else F_X11_hear_16 n0 a0 n0 v1 837 μ)
theorem B_X11_hear_54 {l : Launch} {x : gw_C} {d : Nat} {S : gw_S} {Q : Option Value → gw_S → gw_M → Prop} {K : Nat → gw_Kt} {mc ms cc ss : Nat} (hcc : cc ≤ mc) (hss : ss ≤ ms) (hK : gw_cl l x (d + 0) mc ms bsX11_hear Q K) {a0 : Nat} (hS0 : gw_sh S 11 a0) {n0 : Nat} {v1} {u2 : Value} {μ : gw_M} {μ'} (h : F_X11_hear_54 n0 a0 v1 μ = some μ') (hq : Q none S μ') : K 54 [.ref a0, .int v1, u2] [] S μ cc ss := by
  have ka0_0 : gw_kd S a0 = 11 := (hS0 0 _ rfl).1
  have ra0_0_0 : gw_rf S a0 0 = a0 + 1 := (hS0 0 _ rfl).2.2 (0, 1) (by decide)
  have ka0_1 : gw_kd S (a0 + 1) = 12 := (hS0 1 _ rfl).1
  have la0_1 : gw_ln S (a0 + 1) = 20813 := (hS0 1 _ rfl).2.1
  unfold F_X11_hear_54 at h
  refine hK _ _ _ _ _ _ _ ?_
  rw [fdX11_hear_54]
  simp only [gt_nil, true_and, eq_self, gt_aload_n, gt_rfk, gw_nth, gt_get_r, gt_get_i, gt_get_z, gt_sipush, gt_bipush, gt_iaload, gt_iadd, gt_iload_n, gt_ink, gt_iastore, gt_dup2, gt_iconst, gt_vret, bkX11_hear_54, ka0_0, ra0_0_0, ka0_1, la0_1, (show Int32.toNatClampNeg 24 = 24 from rfl)]
  refine ⟨(⟨by decide, by decide⟩ : gw_in 24 20813), ?_⟩
  obtain ⟨c_1, h⟩ := gw_ife h
  refine ⟨c_1, ?_⟩
  obtain ⟨μ_2, hμ_2, h⟩ := gw_lt h
  try rw [← hμ_2]
  refine ⟨(⟨by decide, by decide⟩ : gw_in 24 20813), ?_⟩
  refine ⟨(⟨by decide, by decide⟩ : gw_in 24 20813), ?_⟩
  obtain ⟨μ_3, hμ_3, h⟩ := gw_lt h
  try rw [← hμ_3]
  obtain rfl := gw_inj1 h
  exact ⟨hcc, hss, hq⟩
theorem B_X11_hear_16 {l : Launch} {x : gw_C} {d : Nat} {S : gw_S} {Q : Option Value → gw_S → gw_M → Prop} {K : Nat → gw_Kt} {mc ms cc ss : Nat} (hcc : cc ≤ mc) (hss : ss ≤ ms) (hK : gw_cl l x (d + 0) mc ms bsX11_hear Q K) {a0 : Nat} (hS0 : gw_sh S 11 a0) {n0 : Nat} : ∀ {n : Nat} {v1 v2} {μ : gw_M} {μ'}, F_X11_hear_16 n0 a0 n v1 v2 μ = some μ' → Q none S μ' → K 16 [.ref a0, .int v1, .int v2] [] S μ cc ss := by
  have ka0_0 : gw_kd S a0 = 11 := (hS0 0 _ rfl).1
  have ra0_0_0 : gw_rf S a0 0 = a0 + 1 := (hS0 0 _ rfl).2.2 (0, 1) (by decide)
  have ka0_1 : gw_kd S (a0 + 1) = 12 := (hS0 1 _ rfl).1
  have la0_1 : gw_ln S (a0 + 1) = 20813 := (hS0 1 _ rfl).2.1
  intro n
  induction n with
  | zero => intro v1 v2 μ μ' h hq; simp [F_X11_hear_16] at h
  | succ n ih =>
    intro v1 v2 μ μ' h hq
    simp only [F_X11_hear_16] at h
    refine hK _ _ _ _ _ _ _ ?_
    rw [fdX11_hear_16]
    simp only [gt_nil, true_and, eq_self, gt_iload_n, gt_ink, gw_nth, gt_sipush, gt_icmp, gt_aload_n, gt_rfk, gt_get_r, gt_get_i, gt_get_z, gt_iconst, gt_iadd, gt_iaload, gt_iastore, gt_iinc, gw_set, gt_goto, bkX11_hear_16, ka0_0, ra0_0_0, ka0_1, la0_1, (show Int32.toNatClampNeg 24 = 24 from rfl)]
    refine ⟨fun c_1 => ?_, fun c_1 => ?_⟩
    · replace h := gw_ifp2 (gw_c2_ge _ _) h c_1
      refine hK _ _ _ _ _ _ _ ?_
      rw [fdX11_hear_43]
      simp only [gt_nil, true_and, eq_self, gt_aload_n, gt_rfk, gw_nth, gt_get_r, gt_get_i, gt_get_z, gt_bipush, gt_dup2, gt_iaload, gt_iconst, gt_isub, gt_iastore, bkX11_hear_43, ka0_0, ra0_0_0, ka0_1, la0_1, (show Int32.toNatClampNeg 24 = 24 from rfl)]
      refine ⟨(⟨by decide, by decide⟩ : gw_in 24 20813), ?_⟩
      refine ⟨(⟨by decide, by decide⟩ : gw_in 24 20813), ?_⟩
      obtain ⟨μ_2, hμ_2, h⟩ := gw_lt h
      try rw [← hμ_2]
      exact B_X11_hear_54 hcc hss hK hS0 h hq
    · replace h := gw_ifn2 (gw_c2_ge _ _) h c_1
      obtain ⟨c_3, h⟩ := gw_ife h
      refine ⟨c_3, ?_⟩
      obtain ⟨c_4, h⟩ := gw_ife h
      refine ⟨c_4, ?_⟩
      obtain ⟨μ_5, hμ_5, h⟩ := gw_lt h
      try rw [← hμ_5]
      obtain ⟨w_6, hw_6, h⟩ := gw_lt h
      try rw [← hw_6]
      exact ih h hq
theorem ok_X11_hear {l : Launch} {x : gw_C} {d : Nat} {S : gw_S} {Q : Option Value → gw_S → gw_M → Prop} {v1 : Int32} {a0 : Nat} {n0 : Nat} {μ : gw_M} {μ'} (hS0 : gw_sh S 11 a0) (h : F_X11_hear n0 a0 v1 μ = some μ') (hq : Q none S μ') : gw_ok l x (d + 1) sgX11_hear 0 0 [.ref a0, .int v1] S μ Q := by
  refine gw_ok_of stX11_hear (lv0 := [.ref a0, .int v1, .retAddr 0]) (Nat.le_of_ble_eq_true rfl) rfl rfl ?_
  intro K hK
  have hcc : 0 ≤ 0 := Nat.zero_le _
  have hss : 0 ≤ 0 := Nat.zero_le _
  have ka0_0 : gw_kd S a0 = 11 := (hS0 0 _ rfl).1
  have ra0_0_0 : gw_rf S a0 0 = a0 + 1 := (hS0 0 _ rfl).2.2 (0, 1) (by decide)
  have ka0_1 : gw_kd S (a0 + 1) = 12 := (hS0 1 _ rfl).1
  have la0_1 : gw_ln S (a0 + 1) = 20813 := (hS0 1 _ rfl).2.1
  unfold F_X11_hear at h
  refine hK _ _ _ _ _ _ _ ?_
  rw [fdX11_hear_0]
  simp only [gt_nil, true_and, eq_self, gt_aload_n, gt_rfk, gw_nth, gt_get_r, gt_get_i, gt_get_z, gt_bipush, gt_iaload, gt_icmp, gt_sipush, gt_istore_n, gw_set, bkX11_hear_0, ka0_0, ra0_0_0, ka0_1, la0_1, (show Int32.toNatClampNeg 24 = 24 from rfl)]
  refine ⟨(⟨by decide, by decide⟩ : gw_in 24 20813), ?_⟩
  refine ⟨fun c_1 => ?_, fun c_1 => ?_⟩
  · replace h := gw_ifp2 (gw_c2_ne _ _) h c_1
    exact B_X11_hear_54 hcc hss hK hS0 h hq
  · replace h := gw_ifn2 (gw_c2_ne _ _) h c_1
    exact B_X11_hear_16 hcc hss hK hS0 h hq
def F_X11_doAt_29 (n0 : Nat) (a0 : Nat) (v1 : Int32) (μ : gw_M) : Option (Int32 × gw_M) := (if 0 ≤ ((802 : Int32) + v1) ∧ ((802 : Int32) + v1).toNatClampNeg < 20813 then some ((μ (a0 + 1) ((802 : Int32) + v1).toNatClampNeg), μ) else none)
def F_X11_doAt (n0 : Nat) (a0 : Nat) (v1 : Int32) (v2 : Int32) (v3 : Int32) (μ : gw_M) : Option (Int32 × gw_M) := (if ¬ v2 = 1 then F_X11_doAt_29 n0 a0 v1 μ else (if 0 ≤ ((802 : Int32) + v1) ∧ ((802 : Int32) + v1).toNatClampNeg < 20813 then gw_let (gw_up μ (a0 + 1) ((802 : Int32) + v1).toNatClampNeg v3) (fun (μ_3 : gw_M) => gw_let (gw_up μ_3 (a0 + 1) 21 ((μ_3 (a0 + 1) 21) ||| ((1 : Int32) <<< (v1 &&& 31)))) (fun (μ_4 : gw_M) => F_X11_doAt_29 n0 a0 v1 μ_4)) else none))
theorem B_X11_doAt_29 {l : Launch} {x : gw_C} {d : Nat} {S : gw_S} {Q : Option Value → gw_S → gw_M → Prop} {K : Nat → gw_Kt} {mc ms cc ss : Nat} (hcc : cc ≤ mc) (hss : ss ≤ ms) (hK : gw_cl l x (d + 0) mc ms bsX11_doAt Q K) {a0 : Nat} (hS0 : gw_sh S 11 a0) {n0 : Nat} {v1} {u2 u3 : Value} {μ : gw_M} {r μ'} (h : F_X11_doAt_29 n0 a0 v1 μ = some (r, μ')) (hq : Q (some (.int r)) S μ') : K 29 [.ref a0, .int v1, u2, u3] [] S μ cc ss := by
  have ka0_0 : gw_kd S a0 = 11 := (hS0 0 _ rfl).1
  have ra0_0_0 : gw_rf S a0 0 = a0 + 1 := (hS0 0 _ rfl).2.2 (0, 1) (by decide)
  have ka0_1 : gw_kd S (a0 + 1) = 12 := (hS0 1 _ rfl).1
  have la0_1 : gw_ln S (a0 + 1) = 20813 := (hS0 1 _ rfl).2.1
  unfold F_X11_doAt_29 at h
  refine hK _ _ _ _ _ _ _ ?_
  rw [fdX11_doAt_29]
  simp only [gt_nil, true_and, eq_self, gt_aload_n, gt_rfk, gw_nth, gt_get_r, gt_get_i, gt_get_z, gt_sipush, gt_iload_n, gt_ink, gt_iadd, gt_iaload, gt_iret, gt_retz, bkX11_doAt_29, ka0_0, ra0_0_0, ka0_1, la0_1]
  obtain ⟨c_1, h⟩ := gw_ife h
  refine ⟨c_1, ?_⟩
  obtain ⟨rfl, rfl⟩ := gw_inj2 h
  exact ⟨hcc, hss, hq⟩
theorem ok_X11_doAt {l : Launch} {x : gw_C} {d : Nat} {S : gw_S} {Q : Option Value → gw_S → gw_M → Prop} {v1 v2 v3 : Int32} {a0 : Nat} {n0 : Nat} {μ : gw_M} {r μ'} (hS0 : gw_sh S 11 a0) (h : F_X11_doAt n0 a0 v1 v2 v3 μ = some (r, μ')) (hq : Q (some (.int r)) S μ') : gw_ok l x (d + 1) sgX11_doAt 0 0 [.ref a0, .int v1, .int v2, .int v3] S μ Q := by
  refine gw_ok_of stX11_doAt (lv0 := [.ref a0, .int v1, .int v2, .int v3]) (Nat.le_of_ble_eq_true rfl) rfl rfl ?_
  intro K hK
  have hcc : 0 ≤ 0 := Nat.zero_le _
  have hss : 0 ≤ 0 := Nat.zero_le _
  have ka0_0 : gw_kd S a0 = 11 := (hS0 0 _ rfl).1
  have ra0_0_0 : gw_rf S a0 0 = a0 + 1 := (hS0 0 _ rfl).2.2 (0, 1) (by decide)
  have ka0_1 : gw_kd S (a0 + 1) = 12 := (hS0 1 _ rfl).1
  have la0_1 : gw_ln S (a0 + 1) = 20813 := (hS0 1 _ rfl).2.1
  unfold F_X11_doAt at h
  refine hK _ _ _ _ _ _ _ ?_
  rw [fdX11_doAt_0]
  simp only [gt_nil, true_and, eq_self, gt_iload_n, gt_ink, gw_nth, gt_iconst, gt_icmp, gt_aload_n, gt_rfk, gt_get_r, gt_get_i, gt_get_z, gt_sipush, gt_iadd, gt_iastore, gt_bipush, gt_dup2, gt_iaload, gt_ishl, gt_ior, bkX11_doAt_0, ka0_0, ra0_0_0, ka0_1, la0_1, (show Int32.toNatClampNeg 21 = 21 from rfl)]
  refine ⟨fun c_1 => ?_, fun c_1 => ?_⟩
  · replace h := gw_ifp2 (gw_c2_ne _ _) h c_1
    exact B_X11_doAt_29 hcc hss hK hS0 h hq
  · replace h := gw_ifn2 (gw_c2_ne _ _) h c_1
    obtain ⟨c_2, h⟩ := gw_ife h
    refine ⟨c_2, ?_⟩
    obtain ⟨μ_3, hμ_3, h⟩ := gw_lt h
    try rw [← hμ_3]
    refine ⟨(⟨by decide, by decide⟩ : gw_in 21 20813), ?_⟩
    refine ⟨(⟨by decide, by decide⟩ : gw_in 21 20813), ?_⟩
    obtain ⟨μ_4, hμ_4, h⟩ := gw_lt h
    try rw [← hμ_4]
    exact B_X11_doAt_29 hcc hss hK hS0 h hq
def F_X11_doInner (n0 : Nat) (a0 : Nat) (v1 : Int32) (v2 : Int32) (v3 : Int32) (μ : gw_M) : Option (Int32 × gw_M) := (gw_bi (F_X11_doAt n0 a0 v1 v2 v3 μ) (fun (r_1 : Int32) (μ_2 : gw_M) => (if v2 = 1 then some (r_1, μ_2) else (F_X11_hear n0 a0 r_1 μ_2).bind (fun (μ_7 : gw_M) => some (r_1, μ_7)))))
theorem ok_X11_doInner {l : Launch} {x : gw_C} {d : Nat} {S : gw_S} {Q : Option Value → gw_S → gw_M → Prop} {v1 v2 v3 : Int32} {a0 : Nat} {n0 : Nat} {μ : gw_M} {r μ'} (hS0 : gw_sh S 11 a0) (h : F_X11_doInner n0 a0 v1 v2 v3 μ = some (r, μ')) (hq : Q (some (.int r)) S μ') : gw_ok l x (d + 2) sgX11_doInner 0 0 [.ref a0, .int v1, .int v2, .int v3] S μ Q := by
  refine gw_ok_of stX11_doInner (lv0 := [.ref a0, .int v1, .int v2, .int v3, .retAddr 0]) (Nat.le_of_ble_eq_true rfl) rfl rfl ?_
  intro K hK
  have hcc : 0 ≤ 0 := Nat.zero_le _
  have hss : 0 ≤ 0 := Nat.zero_le _
  have ka0_0 : gw_kd S a0 = 11 := (hS0 0 _ rfl).1
  unfold F_X11_doInner at h
  refine hK _ _ _ _ _ _ _ ?_
  rw [fdX11_doInner_0]
  simp only [gt_nil, true_and, eq_self, gt_aload_n, gt_rfk, gw_nth, gt_iload_n, gt_ink, gt_v0, gt_v1, gt_v2, gt_v3, gt_v4, gt_v5, gt_istore, gw_set, gt_iconst, gt_icmp, gt_iload, bkX11_doInner_0, ka0_0]
  obtain ⟨r_1, μ_2, e_3, h⟩ := gw_bnd2 h
  refine ⟨rfl, 0, 0, hcc, hss, ok_X11_doAt hS0 e_3 ?_⟩
  simp only [gt_nil, true_and, eq_self, gt_istore, gw_set, gt_iload_n, gt_ink, gw_nth, gt_iconst, gt_icmp, gt_aload_n, gt_rfk, gt_iload, gt_v0, gt_v1, gt_v2, gt_v3, gt_v4, gt_v5, Option.toList, List.cons_append, List.nil_append, Nat.add_zero, ka0_0]
  refine ⟨fun c_5 => ?_, fun c_5 => ?_⟩
  · replace h := gw_ifp2 (gw_c2_eq _ _) h c_5
    refine hK _ _ _ _ _ _ _ ?_
    rw [fdX11_doInner_20]
    simp only [gt_nil, true_and, eq_self, gt_iload, gt_ink, gw_nth, gt_iret, gt_retz, bkX11_doInner_20, ka0_0]
    obtain ⟨rfl, rfl⟩ := gw_inj2 h
    exact ⟨hcc, hss, hq⟩
  · replace h := gw_ifn2 (gw_c2_eq _ _) h c_5
    obtain ⟨μ_7, e_8, h⟩ := gw_bnd h
    refine ⟨rfl, 0, 0, hcc, hss, ok_X11_hear hS0 e_8 ?_⟩
    simp only [gt_nil, true_and, eq_self, Option.toList, List.cons_append, List.nil_append, Nat.add_zero, ka0_0]
    refine hK _ _ _ _ _ _ _ ?_
    rw [fdX11_doInner_20]
    simp only [gt_nil, true_and, eq_self, gt_iload, gt_ink, gw_nth, gt_iret, gt_retz, bkX11_doInner_20, ka0_0]
    obtain ⟨rfl, rfl⟩ := gw_inj2 h
    exact ⟨hcc, hss, hq⟩
def F_X11_touchInner_159 (n0 : Nat) (a0 : Nat) (v2 : Int32) (v3 : Int32) (v4 : Int32) (v5 : Int32) (μ : gw_M) : Option (Int32 × gw_M) := (F_X11_gives n0 a0 2 v5 v2 μ).bind (fun (r_1 : Int32) => (if ¬ r_1 = 0 then (F_X11_fold n0 a0 v4 μ).bind (fun (μ_7 : gw_M) => (F_X11_toOf n0 a0 3 v4 μ_7).bind (fun (r_10 : Int32) => (gw_bi (F_X11_doInner n0 a0 r_10 v2 v3 μ_7) (fun (r_14 : Int32) (μ_15 : gw_M) => some (r_14, μ_15))))) else some ((-4), μ)))
def F_X11_touchInner_143 (n0 : Nat) (a0 : Nat) (v2 : Int32) (v3 : Int32) (v4 : Int32) (v5 : Int32) (μ : gw_M) : Option (Int32 × gw_M) := (F_X11_isParted n0 a0 v5 v2 μ).bind (fun (r_1 : Int32) => (if r_1 = 0 then F_X11_touchInner_159 n0 a0 v2 v3 v4 v5 μ else (F_X11_part n0 a0 v5 μ).bind (fun (μ_7 : gw_M) => F_X11_touchInner_159 n0 a0 v2 v3 v4 v5 μ_7)))
def F_X11_touchInner (n0 : Nat) (a0 : Nat) (v1 : Int32) (v2 : Int32) (v3 : Int32) (μ : gw_M) : Option (Int32 × gw_M) := (F_X11_gives n0 a0 0 v1 v2 μ).bind (fun (r_1 : Int32) => (if ¬ r_1 = 0 then (F_X11_toOf n0 a0 0 v1 μ).bind (fun (r_6 : Int32) => (F_X11_gives n0 a0 3 r_6 v2 μ).bind (fun (r_10 : Int32) => (if r_10 = 0 then (F_X11_gives n0 a0 1 r_6 v2 μ).bind (fun (r_15 : Int32) => (if ¬ r_15 = 0 then (F_X11_see n0 a0 2 (((4 : Int32) * r_6) + v2) μ).bind (fun (μ_21 : gw_M) => (F_X11_toOf n0 a0 1 r_6 μ_21).bind (fun (r_24 : Int32) => (F_X11_toOf n0 a0 2 r_24 μ_21).bind (fun (r_28 : Int32) => (if ¬ r_28 = (-1) then F_X11_touchInner_143 n0 a0 v2 v3 r_6 r_24 μ_21 else (F_X11_give n0 a0 r_24 μ_21).bind (fun (μ_34 : gw_M) => F_X11_touchInner_143 n0 a0 v2 v3 r_6 r_24 μ_34))))) else (F_X11_deal n0 a0 1 (((4 : Int32) * r_6) + v2) μ).bind (fun (μ_38 : gw_M) => some ((-3), μ_38)))) else (F_X11_toOf n0 a0 3 r_6 μ).bind (fun (r_41 : Int32) => (gw_bi (F_X11_doInner n0 a0 r_41 v2 v3 μ) (fun (r_45 : Int32) (μ_46 : gw_M) => some (r_45, μ_46))))))) else (gw_bi (F_X11_eventNow n0 a0 0 μ) (fun (r_49 : Int32) (μ_50 : gw_M) => (if ¬ r_49 = 2 then some ((-2), μ_50) else gw_let (gw_up μ_50 (a0 + 1) 7 ((μ_50 (a0 + 1) 7) + (1 : Int32))) (fun (μ_54 : gw_M) => (F_X11_guestAt n0 a0 2 μ_54).bind (fun (r_55 : Int32) => (if 0 ≤ (r_55 + (144 : Int32)) ∧ (r_55 + (144 : Int32)).toNatClampNeg < 20813 then gw_let (gw_up μ_54 (a0 + 1) (r_55 + (144 : Int32)).toNatClampNeg v1) (fun (μ_60 : gw_M) => some ((-2), μ_60)) else none))))))))
theorem B_X11_touchInner_159 {l : Launch} {x : gw_C} {d : Nat} {S : gw_S} {Q : Option Value → gw_S → gw_M → Prop} {K : Nat → gw_Kt} {mc ms cc ss : Nat} (hcc : cc ≤ mc) (hss : ss ≤ ms) (hK : gw_cl l x (d + 9) mc ms bsX11_touchInner Q K) {a0 : Nat} (hS0 : gw_sh S 11 a0) {n0 : Nat} {v2 v3 v4 v5} {u1 : Value} {μ : gw_M} {r μ'} (h : F_X11_touchInner_159 n0 a0 v2 v3 v4 v5 μ = some (r, μ')) (hq : Q (some (.int r)) S μ') : K 159 [.ref a0, u1, .int v2, .int v3, .int v4, .int v5] [] S μ cc ss := by
  have ka0_0 : gw_kd S a0 = 11 := (hS0 0 _ rfl).1
  unfold F_X11_touchInner_159 at h
  refine hK _ _ _ _ _ _ _ ?_
  rw [fdX11_touchInner_159]
  simp only [gt_nil, true_and, eq_self, gt_aload_n, gt_rfk, gw_nth, gt_iconst, gt_iload, gt_ink, gt_iload_n, gt_v0, gt_v1, gt_v2, gt_v3, gt_v4, gt_v5, gt_if, gt_bipush, gt_iret, gt_retz, bkX11_touchInner_159, ka0_0]
  obtain ⟨r_1, e_3, h⟩ := gw_bnd h
  refine ⟨rfl, 0, 0, hcc, hss, ok_X11_gives hS0 e_3 ?_⟩
  intro hbr_1
  simp only [gt_nil, true_and, eq_self, gt_if, gt_bipush, gt_iret, gt_retz, Option.toList, List.cons_append, List.nil_append, Nat.add_zero, ka0_0]
  refine ⟨fun c_5 => ?_, fun c_5 => ?_⟩
  · replace h := gw_ifp h c_5
    refine hK _ _ _ _ _ _ _ ?_
    rw [fdX11_touchInner_173]
    simp only [gt_nil, true_and, eq_self, gt_aload_n, gt_rfk, gw_nth, gt_iload, gt_ink, gt_v0, gt_v1, gt_v2, gt_v3, gt_v4, gt_v5, gt_iconst, gt_iload_n, gt_iret, gt_retz, bkX11_touchInner_173, ka0_0]
    obtain ⟨μ_7, e_8, h⟩ := gw_bnd h
    refine ⟨rfl, 0, 0, hcc, hss, ok_X11_fold hS0 e_8 ?_⟩
    simp only [gt_nil, true_and, eq_self, gt_aload_n, gt_rfk, gw_nth, gt_iconst, gt_iload, gt_ink, gt_v0, gt_v1, gt_v2, gt_v3, gt_v4, gt_v5, gt_iload_n, gt_iret, gt_retz, Option.toList, List.cons_append, List.nil_append, Nat.add_zero, ka0_0]
    obtain ⟨r_10, e_12, h⟩ := gw_bnd h
    refine ⟨rfl, 0, 0, hcc, hss, ok_X11_toOf hS0 e_12 ?_⟩
    simp only [gt_nil, true_and, eq_self, gt_iload_n, gt_ink, gw_nth, gt_v0, gt_v1, gt_v2, gt_v3, gt_v4, gt_v5, gt_iret, gt_retz, Option.toList, List.cons_append, List.nil_append, Nat.add_zero, ka0_0]
    obtain ⟨r_14, μ_15, e_16, h⟩ := gw_bnd2 h
    refine ⟨rfl, 0, 0, hcc, hss, ok_X11_doInner hS0 e_16 ?_⟩
    simp only [gt_nil, true_and, eq_self, gt_iret, gt_retz, Option.toList, List.cons_append, List.nil_append, Nat.add_zero, ka0_0]
    obtain ⟨rfl, rfl⟩ := gw_inj2 h
    exact ⟨hcc, hss, hq⟩
  · replace h := gw_ifn h c_5
    obtain ⟨rfl, rfl⟩ := gw_inj2 h
    exact ⟨hcc, hss, hq⟩
theorem B_X11_touchInner_143 {l : Launch} {x : gw_C} {d : Nat} {S : gw_S} {Q : Option Value → gw_S → gw_M → Prop} {K : Nat → gw_Kt} {mc ms cc ss : Nat} (hcc : cc ≤ mc) (hss : ss ≤ ms) (hK : gw_cl l x (d + 9) mc ms bsX11_touchInner Q K) {a0 : Nat} (hS0 : gw_sh S 11 a0) {n0 : Nat} {v2 v3 v4 v5} {u1 : Value} {μ : gw_M} {r μ'} (h : F_X11_touchInner_143 n0 a0 v2 v3 v4 v5 μ = some (r, μ')) (hq : Q (some (.int r)) S μ') : K 143 [.ref a0, u1, .int v2, .int v3, .int v4, .int v5] [] S μ cc ss := by
  have ka0_0 : gw_kd S a0 = 11 := (hS0 0 _ rfl).1
  unfold F_X11_touchInner_143 at h
  refine hK _ _ _ _ _ _ _ ?_
  rw [fdX11_touchInner_143]
  simp only [gt_nil, true_and, eq_self, gt_aload_n, gt_rfk, gw_nth, gt_iload, gt_ink, gt_iload_n, gt_v0, gt_v1, gt_v2, gt_v3, gt_v4, gt_v5, gt_if, bkX11_touchInner_143, ka0_0]
  obtain ⟨r_1, e_3, h⟩ := gw_bnd h
  refine ⟨rfl, 0, 0, hcc, hss, ok_X11_isParted hS0 e_3 ?_⟩
  intro hbr_1
  simp only [gt_nil, true_and, eq_self, gt_if, gt_aload_n, gt_rfk, gw_nth, gt_iload, gt_ink, gt_v0, gt_v1, gt_v2, gt_v3, gt_v4, gt_v5, Option.toList, List.cons_append, List.nil_append, Nat.add_zero, ka0_0]
  refine ⟨fun c_5 => ?_, fun c_5 => ?_⟩
  · replace h := gw_ifp h c_5
    exact B_X11_touchInner_159 hcc hss hK hS0 h hq
  · replace h := gw_ifn h c_5
    obtain ⟨μ_7, e_8, h⟩ := gw_bnd h
    refine ⟨rfl, 0, 0, hcc, hss, ok_X11_part hS0 e_8 ?_⟩
    simp only [gt_nil, true_and, eq_self, Option.toList, List.cons_append, List.nil_append, Nat.add_zero, ka0_0]
    exact B_X11_touchInner_159 hcc hss hK hS0 h hq
theorem ok_X11_touchInner {l : Launch} {x : gw_C} {d : Nat} {S : gw_S} {Q : Option Value → gw_S → gw_M → Prop} {v1 v2 v3 : Int32} {a0 : Nat} {n0 : Nat} {μ : gw_M} {r μ'} (hS0 : gw_sh S 11 a0) (h : F_X11_touchInner n0 a0 v1 v2 v3 μ = some (r, μ')) (hq : Q (some (.int r)) S μ') : gw_ok l x (d + 10) sgX11_touchInner 0 0 [.ref a0, .int v1, .int v2, .int v3] S μ Q := by
  refine gw_ok_of stX11_touchInner (lv0 := [.ref a0, .int v1, .int v2, .int v3, .retAddr 0, .retAddr 0]) (Nat.le_of_ble_eq_true rfl) rfl rfl ?_
  intro K hK
  have hcc : 0 ≤ 0 := Nat.zero_le _
  have hss : 0 ≤ 0 := Nat.zero_le _
  have ka0_0 : gw_kd S a0 = 11 := (hS0 0 _ rfl).1
  have ra0_0_0 : gw_rf S a0 0 = a0 + 1 := (hS0 0 _ rfl).2.2 (0, 1) (by decide)
  have ka0_1 : gw_kd S (a0 + 1) = 12 := (hS0 1 _ rfl).1
  have la0_1 : gw_ln S (a0 + 1) = 20813 := (hS0 1 _ rfl).2.1
  unfold F_X11_touchInner at h
  refine hK _ _ _ _ _ _ _ ?_
  rw [fdX11_touchInner_0]
  simp only [gt_nil, true_and, eq_self, gt_aload_n, gt_rfk, gw_nth, gt_iconst, gt_iload_n, gt_ink, gt_v0, gt_v1, gt_v2, gt_v3, gt_v4, gt_v5, gt_if, gt_icmp, gt_get_r, gt_get_i, gt_get_z, gt_bipush, gt_dup2, gt_iaload, gt_iadd, gt_iastore, gt_sipush, bkX11_touchInner_0, ka0_0, ra0_0_0, ka0_1, la0_1, (show Int32.toNatClampNeg 7 = 7 from rfl)]
  obtain ⟨r_1, e_3, h⟩ := gw_bnd h
  refine ⟨rfl, 0, 0, hcc, hss, ok_X11_gives hS0 e_3 ?_⟩
  intro hbr_1
  simp only [gt_nil, true_and, eq_self, gt_if, gt_aload_n, gt_rfk, gw_nth, gt_iconst, gt_v0, gt_v1, gt_v2, gt_v3, gt_v4, gt_v5, gt_icmp, gt_get_r, gt_get_i, gt_get_z, gt_bipush, gt_dup2, gt_iaload, gt_iadd, gt_iastore, gt_sipush, gt_iload_n, gt_ink, Option.toList, List.cons_append, List.nil_append, Nat.add_zero, ka0_0, ra0_0_0, ka0_1, la0_1, (show Int32.toNatClampNeg 7 = 7 from rfl)]
  refine ⟨fun c_5 => ?_, fun c_5 => ?_⟩
  · replace h := gw_ifp h c_5
    refine hK _ _ _ _ _ _ _ ?_
    rw [fdX11_touchInner_48]
    simp only [gt_nil, true_and, eq_self, gt_aload_n, gt_rfk, gw_nth, gt_iconst, gt_iload_n, gt_ink, gt_v0, gt_v1, gt_v2, gt_v3, gt_v4, gt_v5, gt_istore, gw_set, gt_iload, gt_if, gt_iret, gt_retz, bkX11_touchInner_48, ka0_0, ra0_0_0, ka0_1, la0_1, (show Int32.toNatClampNeg 7 = 7 from rfl)]
    obtain ⟨r_6, e_8, h⟩ := gw_bnd h
    refine ⟨rfl, 0, 0, hcc, hss, ok_X11_toOf hS0 e_8 ?_⟩
    simp only [gt_nil, true_and, eq_self, gt_istore, gw_set, gt_aload_n, gt_rfk, gw_nth, gt_iconst, gt_iload, gt_ink, gt_iload_n, gt_v0, gt_v1, gt_v2, gt_v3, gt_v4, gt_v5, gt_if, gt_iret, gt_retz, Option.toList, List.cons_append, List.nil_append, Nat.add_zero, ka0_0, ra0_0_0, ka0_1, la0_1, (show Int32.toNatClampNeg 7 = 7 from rfl)]
    obtain ⟨r_10, e_12, h⟩ := gw_bnd h
    refine ⟨rfl, 0, 0, hcc, hss, ok_X11_gives hS0 e_12 ?_⟩
    intro hbr_10
    simp only [gt_nil, true_and, eq_self, gt_if, gt_aload_n, gt_rfk, gw_nth, gt_iconst, gt_iload, gt_ink, gt_v0, gt_v1, gt_v2, gt_v3, gt_v4, gt_v5, gt_iload_n, gt_iret, gt_retz, Option.toList, List.cons_append, List.nil_append, Nat.add_zero, ka0_0, ra0_0_0, ka0_1, la0_1, (show Int32.toNatClampNeg 7 = 7 from rfl)]
    refine ⟨fun c_14 => ?_, fun c_14 => ?_⟩
    · replace h := gw_ifp h c_14
      refine hK _ _ _ _ _ _ _ ?_
      rw [fdX11_touchInner_81]
      simp only [gt_nil, true_and, eq_self, gt_aload_n, gt_rfk, gw_nth, gt_iconst, gt_iload, gt_ink, gt_iload_n, gt_v0, gt_v1, gt_v2, gt_v3, gt_v4, gt_v5, gt_if, gt_imul, gt_iadd, gt_bipush, gt_iret, gt_retz, bkX11_touchInner_81, ka0_0, ra0_0_0, ka0_1, la0_1, (show Int32.toNatClampNeg 7 = 7 from rfl)]
      obtain ⟨r_15, e_17, h⟩ := gw_bnd h
      refine ⟨rfl, 0, 0, hcc, hss, ok_X11_gives hS0 e_17 ?_⟩
      intro hbr_15
      simp only [gt_nil, true_and, eq_self, gt_if, gt_aload_n, gt_rfk, gw_nth, gt_iconst, gt_iload, gt_ink, gt_imul, gt_iload_n, gt_iadd, gt_v0, gt_v1, gt_v2, gt_v3, gt_v4, gt_v5, gt_bipush, gt_iret, gt_retz, Option.toList, List.cons_append, List.nil_append, Nat.add_zero, ka0_0, ra0_0_0, ka0_1, la0_1, (show Int32.toNatClampNeg 7 = 7 from rfl)]
      refine ⟨fun c_19 => ?_, fun c_19 => ?_⟩
      · replace h := gw_ifp h c_19
        refine hK _ _ _ _ _ _ _ ?_
        rw [fdX11_touchInner_106]
        simp only [gt_nil, true_and, eq_self, gt_aload_n, gt_rfk, gw_nth, gt_iconst, gt_iload, gt_ink, gt_imul, gt_iload_n, gt_iadd, gt_v0, gt_v1, gt_v2, gt_v3, gt_v4, gt_v5, gt_istore, gw_set, gt_icmp, bkX11_touchInner_106, ka0_0, ra0_0_0, ka0_1, la0_1, (show Int32.toNatClampNeg 7 = 7 from rfl)]
        obtain ⟨μ_21, e_22, h⟩ := gw_bnd h
        refine ⟨rfl, 0, 0, hcc, hss, ok_X11_see hS0 e_22 ?_⟩
        simp only [gt_nil, true_and, eq_self, gt_aload_n, gt_rfk, gw_nth, gt_iconst, gt_iload, gt_ink, gt_v0, gt_v1, gt_v2, gt_v3, gt_v4, gt_v5, gt_istore, gw_set, gt_icmp, Option.toList, List.cons_append, List.nil_append, Nat.add_zero, ka0_0, ra0_0_0, ka0_1, la0_1, (show Int32.toNatClampNeg 7 = 7 from rfl)]
        obtain ⟨r_24, e_26, h⟩ := gw_bnd h
        refine ⟨rfl, 0, 0, hcc, hss, ok_X11_toOf hS0 e_26 ?_⟩
        simp only [gt_nil, true_and, eq_self, gt_istore, gw_set, gt_aload_n, gt_rfk, gw_nth, gt_iconst, gt_iload, gt_ink, gt_v0, gt_v1, gt_v2, gt_v3, gt_v4, gt_v5, gt_icmp, Option.toList, List.cons_append, List.nil_append, Nat.add_zero, ka0_0, ra0_0_0, ka0_1, la0_1, (show Int32.toNatClampNeg 7 = 7 from rfl)]
        obtain ⟨r_28, e_30, h⟩ := gw_bnd h
        refine ⟨rfl, 0, 0, hcc, hss, ok_X11_toOf hS0 e_30 ?_⟩
        simp only [gt_nil, true_and, eq_self, gt_iconst, gt_icmp, gt_aload_n, gt_rfk, gw_nth, gt_iload, gt_ink, gt_v0, gt_v1, gt_v2, gt_v3, gt_v4, gt_v5, Option.toList, List.cons_append, List.nil_append, Nat.add_zero, ka0_0, ra0_0_0, ka0_1, la0_1, (show Int32.toNatClampNeg 7 = 7 from rfl)]
        refine ⟨fun c_32 => ?_, fun c_32 => ?_⟩
        · replace h := gw_ifp2 (gw_c2_ne _ _) h c_32
          exact B_X11_touchInner_143 hcc hss hK hS0 h hq
        · replace h := gw_ifn2 (gw_c2_ne _ _) h c_32
          obtain ⟨μ_34, e_35, h⟩ := gw_bnd h
          refine ⟨rfl, 0, 0, hcc, hss, ok_X11_give hS0 e_35 ?_⟩
          simp only [gt_nil, true_and, eq_self, Option.toList, List.cons_append, List.nil_append, Nat.add_zero, ka0_0, ra0_0_0, ka0_1, la0_1, (show Int32.toNatClampNeg 7 = 7 from rfl)]
          exact B_X11_touchInner_143 hcc hss hK hS0 h hq
      · replace h := gw_ifn h c_19
        obtain ⟨μ_38, e_39, h⟩ := gw_bnd h
        refine ⟨rfl, 0, 0, hcc, hss, ok_X11_deal hS0 e_39 ?_⟩
        simp only [gt_nil, true_and, eq_self, gt_bipush, gt_iret, gt_retz, Option.toList, List.cons_append, List.nil_append, Nat.add_zero, ka0_0, ra0_0_0, ka0_1, la0_1, (show Int32.toNatClampNeg 7 = 7 from rfl)]
        obtain ⟨rfl, rfl⟩ := gw_inj2 h
        exact ⟨hcc, hss, hq⟩
    · replace h := gw_ifn h c_14
      obtain ⟨r_41, e_43, h⟩ := gw_bnd h
      refine ⟨rfl, 0, 0, hcc, hss, ok_X11_toOf hS0 e_43 ?_⟩
      simp only [gt_nil, true_and, eq_self, gt_iload_n, gt_ink, gw_nth, gt_v0, gt_v1, gt_v2, gt_v3, gt_v4, gt_v5, gt_iret, gt_retz, Option.toList, List.cons_append, List.nil_append, Nat.add_zero, ka0_0, ra0_0_0, ka0_1, la0_1, (show Int32.toNatClampNeg 7 = 7 from rfl)]
      obtain ⟨r_45, μ_46, e_47, h⟩ := gw_bnd2 h
      refine ⟨rfl, 0, 0, hcc, hss, ok_X11_doInner hS0 e_47 ?_⟩
      simp only [gt_nil, true_and, eq_self, gt_iret, gt_retz, Option.toList, List.cons_append, List.nil_append, Nat.add_zero, ka0_0, ra0_0_0, ka0_1, la0_1, (show Int32.toNatClampNeg 7 = 7 from rfl)]
      obtain ⟨rfl, rfl⟩ := gw_inj2 h
      exact ⟨hcc, hss, hq⟩
  · replace h := gw_ifn h c_5
    obtain ⟨r_49, μ_50, e_51, h⟩ := gw_bnd2 h
    refine ⟨rfl, 0, 0, hcc, hss, ok_X11_eventNow hS0 e_51 ?_⟩
    simp only [gt_nil, true_and, eq_self, gt_iconst, gt_icmp, gt_aload_n, gt_rfk, gw_nth, gt_get_r, gt_get_i, gt_get_z, gt_bipush, gt_dup2, gt_iaload, gt_iadd, gt_iastore, gt_v0, gt_v1, gt_v2, gt_v3, gt_v4, gt_v5, gt_sipush, gt_iload_n, gt_ink, Option.toList, List.cons_append, List.nil_append, Nat.add_zero, ka0_0, ra0_0_0, ka0_1, la0_1, (show Int32.toNatClampNeg 7 = 7 from rfl)]
    refine ⟨fun c_53 => ?_, fun c_53 => ?_⟩
    · replace h := gw_ifp2 (gw_c2_ne _ _) h c_53
      refine hK _ _ _ _ _ _ _ ?_
      rw [fdX11_touchInner_45]
      simp only [gt_nil, true_and, eq_self, gt_bipush, gt_iret, gt_retz, bkX11_touchInner_45, ka0_0, ra0_0_0, ka0_1, la0_1, (show Int32.toNatClampNeg 7 = 7 from rfl)]
      obtain ⟨rfl, rfl⟩ := gw_inj2 h
      exact ⟨hcc, hss, hq⟩
    · replace h := gw_ifn2 (gw_c2_ne _ _) h c_53
      refine ⟨(⟨by decide, by decide⟩ : gw_in 7 20813), ?_⟩
      refine ⟨(⟨by decide, by decide⟩ : gw_in 7 20813), ?_⟩
      obtain ⟨μ_54, hμ_54, h⟩ := gw_lt h
      try rw [← hμ_54]
      obtain ⟨r_55, e_57, h⟩ := gw_bnd h
      refine ⟨rfl, 0, 0, hcc, hss, ok_X11_guestAt hS0 e_57 ?_⟩
      simp only [gt_nil, true_and, eq_self, gt_sipush, gt_iadd, gt_iload_n, gt_ink, gw_nth, gt_iastore, Option.toList, List.cons_append, List.nil_append, Nat.add_zero, ka0_0, ra0_0_0, ka0_1, la0_1, (show Int32.toNatClampNeg 7 = 7 from rfl)]
      obtain ⟨c_59, h⟩ := gw_ife h
      refine ⟨c_59, ?_⟩
      obtain ⟨μ_60, hμ_60, h⟩ := gw_lt h
      try rw [← hμ_60]
      refine hK _ _ _ _ _ _ _ ?_
      rw [fdX11_touchInner_45]
      simp only [gt_nil, true_and, eq_self, gt_bipush, gt_iret, gt_retz, bkX11_touchInner_45, ka0_0, ra0_0_0, ka0_1, la0_1, (show Int32.toNatClampNeg 7 = 7 from rfl)]
      obtain ⟨rfl, rfl⟩ := gw_inj2 h
      exact ⟨hcc, hss, hq⟩
def F_X11_touchOuter_54 (n0 : Nat) (a0 : Nat) (v1 : Int32) (v2 : Int32) (v3 : Int32) (v4 : Int32) (μ : gw_M) : Option (Int32 × gw_M) := (F_X11_gives n0 a0 2 v1 v2 μ).bind (fun (r_1 : Int32) => (if ¬ r_1 = 0 then (F_X11_toOf n0 a0 2 v1 μ).bind (fun (r_6 : Int32) => (gw_bi (F_X11_doAt n0 a0 r_6 v2 v3 μ) (fun (r_10 : Int32) (μ_11 : gw_M) => some (r_10, μ_11)))) else (F_X11_see n0 a0 3 v4 μ).bind (fun (μ_15 : gw_M) => some ((-4), μ_15))))
def F_X11_touchOuter_32 (n0 : Nat) (a0 : Nat) (v1 : Int32) (v2 : Int32) (v3 : Int32) (v4 : Int32) (μ : gw_M) : Option (Int32 × gw_M) := (F_X11_isParted n0 a0 v1 v2 μ).bind (fun (r_1 : Int32) => (if r_1 = 0 then F_X11_touchOuter_54 n0 a0 v1 v2 v3 v4 μ else (F_X11_see n0 a0 9 v4 μ).bind (fun (μ_7 : gw_M) => (F_X11_part n0 a0 v1 μ_7).bind (fun (μ_11 : gw_M) => F_X11_touchOuter_54 n0 a0 v1 v2 v3 v4 μ_11))))
def F_X11_touchOuter (n0 : Nat) (a0 : Nat) (v1 : Int32) (v2 : Int32) (v3 : Int32) (μ : gw_M) : Option (Int32 × gw_M) := gw_let ((((64 : Int32) + ((4 : Int32) * v1)) + v2)) (fun (w_1 : Int32) => (F_X11_toOf n0 a0 2 v1 μ).bind (fun (r_2 : Int32) => (if ¬ r_2 = (-1) then F_X11_touchOuter_32 n0 a0 v1 v2 v3 w_1 μ else (F_X11_see n0 a0 2 w_1 μ).bind (fun (μ_8 : gw_M) => (F_X11_give n0 a0 v1 μ_8).bind (fun (μ_12 : gw_M) => F_X11_touchOuter_32 n0 a0 v1 v2 v3 w_1 μ_12)))))
theorem B_X11_touchOuter_54 {l : Launch} {x : gw_C} {d : Nat} {S : gw_S} {Q : Option Value → gw_S → gw_M → Prop} {K : Nat → gw_Kt} {mc ms cc ss : Nat} (hcc : cc ≤ mc) (hss : ss ≤ ms) (hK : gw_cl l x (d + 9) mc ms bsX11_touchOuter Q K) {a0 : Nat} (hS0 : gw_sh S 11 a0) {n0 : Nat} {v1 v2 v3 v4} {μ : gw_M} {r μ'} (h : F_X11_touchOuter_54 n0 a0 v1 v2 v3 v4 μ = some (r, μ')) (hq : Q (some (.int r)) S μ') : K 54 [.ref a0, .int v1, .int v2, .int v3, .int v4] [] S μ cc ss := by
  have ka0_0 : gw_kd S a0 = 11 := (hS0 0 _ rfl).1
  unfold F_X11_touchOuter_54 at h
  refine hK _ _ _ _ _ _ _ ?_
  rw [fdX11_touchOuter_54]
  simp only [gt_nil, true_and, eq_self, gt_aload_n, gt_rfk, gw_nth, gt_iconst, gt_iload_n, gt_ink, gt_v0, gt_v1, gt_v2, gt_v3, gt_v4, gt_v5, gt_if, gt_iload, gt_bipush, gt_iret, gt_retz, bkX11_touchOuter_54, ka0_0]
  obtain ⟨r_1, e_3, h⟩ := gw_bnd h
  refine ⟨rfl, 0, 0, hcc, hss, ok_X11_gives hS0 e_3 ?_⟩
  intro hbr_1
  simp only [gt_nil, true_and, eq_self, gt_if, gt_aload_n, gt_rfk, gw_nth, gt_iconst, gt_iload, gt_ink, gt_v0, gt_v1, gt_v2, gt_v3, gt_v4, gt_v5, gt_bipush, gt_iret, gt_retz, Option.toList, List.cons_append, List.nil_append, Nat.add_zero, ka0_0]
  refine ⟨fun c_5 => ?_, fun c_5 => ?_⟩
  · replace h := gw_ifp h c_5
    refine hK _ _ _ _ _ _ _ ?_
    rw [fdX11_touchOuter_74]
    simp only [gt_nil, true_and, eq_self, gt_aload_n, gt_rfk, gw_nth, gt_iconst, gt_iload_n, gt_ink, gt_v0, gt_v1, gt_v2, gt_v3, gt_v4, gt_v5, gt_iret, gt_retz, bkX11_touchOuter_74, ka0_0]
    obtain ⟨r_6, e_8, h⟩ := gw_bnd h
    refine ⟨rfl, 0, 0, hcc, hss, ok_X11_toOf hS0 e_8 ?_⟩
    simp only [gt_nil, true_and, eq_self, gt_iload_n, gt_ink, gw_nth, gt_v0, gt_v1, gt_v2, gt_v3, gt_v4, gt_v5, gt_iret, gt_retz, Option.toList, List.cons_append, List.nil_append, Nat.add_zero, ka0_0]
    obtain ⟨r_10, μ_11, e_12, h⟩ := gw_bnd2 h
    refine ⟨rfl, 0, 0, hcc, hss, ok_X11_doAt hS0 e_12 ?_⟩
    simp only [gt_nil, true_and, eq_self, gt_iret, gt_retz, Option.toList, List.cons_append, List.nil_append, Nat.add_zero, ka0_0]
    obtain ⟨rfl, rfl⟩ := gw_inj2 h
    exact ⟨hcc, hss, hq⟩
  · replace h := gw_ifn h c_5
    obtain ⟨μ_15, e_16, h⟩ := gw_bnd h
    refine ⟨rfl, 0, 0, hcc, hss, ok_X11_see hS0 e_16 ?_⟩
    simp only [gt_nil, true_and, eq_self, gt_bipush, gt_iret, gt_retz, Option.toList, List.cons_append, List.nil_append, Nat.add_zero, ka0_0]
    obtain ⟨rfl, rfl⟩ := gw_inj2 h
    exact ⟨hcc, hss, hq⟩
theorem B_X11_touchOuter_32 {l : Launch} {x : gw_C} {d : Nat} {S : gw_S} {Q : Option Value → gw_S → gw_M → Prop} {K : Nat → gw_Kt} {mc ms cc ss : Nat} (hcc : cc ≤ mc) (hss : ss ≤ ms) (hK : gw_cl l x (d + 9) mc ms bsX11_touchOuter Q K) {a0 : Nat} (hS0 : gw_sh S 11 a0) {n0 : Nat} {v1 v2 v3 v4} {μ : gw_M} {r μ'} (h : F_X11_touchOuter_32 n0 a0 v1 v2 v3 v4 μ = some (r, μ')) (hq : Q (some (.int r)) S μ') : K 32 [.ref a0, .int v1, .int v2, .int v3, .int v4] [] S μ cc ss := by
  have ka0_0 : gw_kd S a0 = 11 := (hS0 0 _ rfl).1
  unfold F_X11_touchOuter_32 at h
  refine hK _ _ _ _ _ _ _ ?_
  rw [fdX11_touchOuter_32]
  simp only [gt_nil, true_and, eq_self, gt_aload_n, gt_rfk, gw_nth, gt_iload_n, gt_ink, gt_v0, gt_v1, gt_v2, gt_v3, gt_v4, gt_v5, gt_if, gt_bipush, gt_iload, bkX11_touchOuter_32, ka0_0]
  obtain ⟨r_1, e_3, h⟩ := gw_bnd h
  refine ⟨rfl, 0, 0, hcc, hss, ok_X11_isParted hS0 e_3 ?_⟩
  intro hbr_1
  simp only [gt_nil, true_and, eq_self, gt_if, gt_aload_n, gt_rfk, gw_nth, gt_bipush, gt_iload, gt_ink, gt_v0, gt_v1, gt_v2, gt_v3, gt_v4, gt_v5, gt_iload_n, Option.toList, List.cons_append, List.nil_append, Nat.add_zero, ka0_0]
  refine ⟨fun c_5 => ?_, fun c_5 => ?_⟩
  · replace h := gw_ifp h c_5
    exact B_X11_touchOuter_54 hcc hss hK hS0 h hq
  · replace h := gw_ifn h c_5
    obtain ⟨μ_7, e_8, h⟩ := gw_bnd h
    refine ⟨rfl, 0, 0, hcc, hss, ok_X11_see hS0 e_8 ?_⟩
    simp only [gt_nil, true_and, eq_self, gt_aload_n, gt_rfk, gw_nth, gt_iload_n, gt_ink, gt_v0, gt_v1, gt_v2, gt_v3, gt_v4, gt_v5, Option.toList, List.cons_append, List.nil_append, Nat.add_zero, ka0_0]
    obtain ⟨μ_11, e_12, h⟩ := gw_bnd h
    refine ⟨rfl, 0, 0, hcc, hss, ok_X11_part hS0 e_12 ?_⟩
    simp only [gt_nil, true_and, eq_self, Option.toList, List.cons_append, List.nil_append, Nat.add_zero, ka0_0]
    exact B_X11_touchOuter_54 hcc hss hK hS0 h hq
theorem ok_X11_touchOuter {l : Launch} {x : gw_C} {d : Nat} {S : gw_S} {Q : Option Value → gw_S → gw_M → Prop} {v1 v2 v3 : Int32} {a0 : Nat} {n0 : Nat} {μ : gw_M} {r μ'} (hS0 : gw_sh S 11 a0) (h : F_X11_touchOuter n0 a0 v1 v2 v3 μ = some (r, μ')) (hq : Q (some (.int r)) S μ') : gw_ok l x (d + 10) sgX11_touchOuter 0 0 [.ref a0, .int v1, .int v2, .int v3] S μ Q := by
  refine gw_ok_of stX11_touchOuter (lv0 := [.ref a0, .int v1, .int v2, .int v3, .retAddr 0]) (Nat.le_of_ble_eq_true rfl) rfl rfl ?_
  intro K hK
  have hcc : 0 ≤ 0 := Nat.zero_le _
  have hss : 0 ≤ 0 := Nat.zero_le _
  have ka0_0 : gw_kd S a0 = 11 := (hS0 0 _ rfl).1
  unfold F_X11_touchOuter at h
  refine hK _ _ _ _ _ _ _ ?_
  rw [fdX11_touchOuter_0]
  simp only [gt_nil, true_and, eq_self, gt_bipush, gt_iconst, gt_iload_n, gt_ink, gw_nth, gt_imul, gt_iadd, gt_istore, gw_set, gt_aload_n, gt_rfk, gt_v0, gt_v1, gt_v2, gt_v3, gt_v4, gt_v5, gt_icmp, gt_iload, bkX11_touchOuter_0, ka0_0]
  obtain ⟨w_1, hw_1, h⟩ := gw_lt h
  try rw [← hw_1]
  obtain ⟨r_2, e_4, h⟩ := gw_bnd h
  refine ⟨rfl, 0, 0, hcc, hss, ok_X11_toOf hS0 e_4 ?_⟩
  simp only [gt_nil, true_and, eq_self, gt_iconst, gt_icmp, gt_aload_n, gt_rfk, gw_nth, gt_iload, gt_ink, gt_v0, gt_v1, gt_v2, gt_v3, gt_v4, gt_v5, gt_iload_n, Option.toList, List.cons_append, List.nil_append, Nat.add_zero, ka0_0]
  refine ⟨fun c_6 => ?_, fun c_6 => ?_⟩
  · replace h := gw_ifp2 (gw_c2_ne _ _) h c_6
    exact B_X11_touchOuter_32 hcc hss hK hS0 h hq
  · replace h := gw_ifn2 (gw_c2_ne _ _) h c_6
    obtain ⟨μ_8, e_9, h⟩ := gw_bnd h
    refine ⟨rfl, 0, 0, hcc, hss, ok_X11_see hS0 e_9 ?_⟩
    simp only [gt_nil, true_and, eq_self, gt_aload_n, gt_rfk, gw_nth, gt_iload_n, gt_ink, gt_v0, gt_v1, gt_v2, gt_v3, gt_v4, gt_v5, Option.toList, List.cons_append, List.nil_append, Nat.add_zero, ka0_0]
    obtain ⟨μ_12, e_13, h⟩ := gw_bnd h
    refine ⟨rfl, 0, 0, hcc, hss, ok_X11_give hS0 e_13 ?_⟩
    simp only [gt_nil, true_and, eq_self, Option.toList, List.cons_append, List.nil_append, Nat.add_zero, ka0_0]
    exact B_X11_touchOuter_32 hcc hss hK hS0 h hq
def F_X11_touchNow (n0 : Nat) (a0 : Nat) (v1 : Int32) (v2 : Int32) (v3 : Int32) (μ : gw_M) : Option (Int32 × gw_M) := (if ¬ (μ (a0 + 1) 2) = 1 then (gw_bi (F_X11_touchInner n0 a0 v1 v2 v3 μ) (fun (r_2 : Int32) (μ_3 : gw_M) => some (r_2, μ_3))) else (gw_bi (F_X11_touchOuter n0 a0 v1 v2 v3 μ) (fun (r_6 : Int32) (μ_7 : gw_M) => some (r_6, μ_7))))
theorem ok_X11_touchNow {l : Launch} {x : gw_C} {d : Nat} {S : gw_S} {Q : Option Value → gw_S → gw_M → Prop} {v1 v2 v3 : Int32} {a0 : Nat} {n0 : Nat} {μ : gw_M} {r μ'} (hS0 : gw_sh S 11 a0) (h : F_X11_touchNow n0 a0 v1 v2 v3 μ = some (r, μ')) (hq : Q (some (.int r)) S μ') : gw_ok l x (d + 11) sgX11_touchNow 0 0 [.ref a0, .int v1, .int v2, .int v3] S μ Q := by
  refine gw_ok_of stX11_touchNow (lv0 := [.ref a0, .int v1, .int v2, .int v3]) (Nat.le_of_ble_eq_true rfl) rfl rfl ?_
  intro K hK
  have hcc : 0 ≤ 0 := Nat.zero_le _
  have hss : 0 ≤ 0 := Nat.zero_le _
  have ka0_0 : gw_kd S a0 = 11 := (hS0 0 _ rfl).1
  have ra0_0_0 : gw_rf S a0 0 = a0 + 1 := (hS0 0 _ rfl).2.2 (0, 1) (by decide)
  have ka0_1 : gw_kd S (a0 + 1) = 12 := (hS0 1 _ rfl).1
  have la0_1 : gw_ln S (a0 + 1) = 20813 := (hS0 1 _ rfl).2.1
  unfold F_X11_touchNow at h
  refine hK _ _ _ _ _ _ _ ?_
  rw [fdX11_touchNow_0]
  simp only [gt_nil, true_and, eq_self, gt_aload_n, gt_rfk, gw_nth, gt_get_r, gt_get_i, gt_get_z, gt_iconst, gt_iaload, gt_icmp, gt_iload_n, gt_ink, gt_v0, gt_v1, gt_v2, gt_v3, gt_v4, gt_v5, gt_goto, bkX11_touchNow_0, ka0_0, ra0_0_0, ka0_1, la0_1, (show Int32.toNatClampNeg 2 = 2 from rfl)]
  refine ⟨(⟨by decide, by decide⟩ : gw_in 2 20813), ?_⟩
  refine ⟨fun c_1 => ?_, fun c_1 => ?_⟩
  · replace h := gw_ifp2 (gw_c2_ne _ _) h c_1
    refine hK _ _ _ _ _ _ _ ?_
    rw [fdX11_touchNow_20]
    simp only [gt_nil, true_and, eq_self, gt_aload_n, gt_rfk, gw_nth, gt_iload_n, gt_ink, gt_v0, gt_v1, gt_v2, gt_v3, gt_v4, gt_v5, bkX11_touchNow_20, ka0_0, ra0_0_0, ka0_1, la0_1, (show Int32.toNatClampNeg 2 = 2 from rfl)]
    obtain ⟨r_2, μ_3, e_4, h⟩ := gw_bnd2 h
    refine ⟨rfl, 0, 0, hcc, hss, ok_X11_touchInner hS0 e_4 ?_⟩
    simp only [gt_nil, true_and, eq_self, Option.toList, List.cons_append, List.nil_append, Nat.add_zero, ka0_0, ra0_0_0, ka0_1, la0_1, (show Int32.toNatClampNeg 2 = 2 from rfl)]
    refine hK _ _ _ _ _ _ _ ?_
    rw [fdX11_touchNow_27]
    simp only [gt_nil, true_and, eq_self, gt_iret, gt_retz, bkX11_touchNow_27, ka0_0, ra0_0_0, ka0_1, la0_1, (show Int32.toNatClampNeg 2 = 2 from rfl)]
    obtain ⟨rfl, rfl⟩ := gw_inj2 h
    exact ⟨hcc, hss, hq⟩
  · replace h := gw_ifn2 (gw_c2_ne _ _) h c_1
    obtain ⟨r_6, μ_7, e_8, h⟩ := gw_bnd2 h
    refine ⟨rfl, 0, 0, hcc, hss, ok_X11_touchOuter hS0 e_8 ?_⟩
    simp only [gt_nil, true_and, eq_self, gt_goto, Option.toList, List.cons_append, List.nil_append, Nat.add_zero, ka0_0, ra0_0_0, ka0_1, la0_1, (show Int32.toNatClampNeg 2 = 2 from rfl)]
    refine hK _ _ _ _ _ _ _ ?_
    rw [fdX11_touchNow_27]
    simp only [gt_nil, true_and, eq_self, gt_iret, gt_retz, bkX11_touchNow_27, ka0_0, ra0_0_0, ka0_1, la0_1, (show Int32.toNatClampNeg 2 = 2 from rfl)]
    obtain ⟨rfl, rfl⟩ := gw_inj2 h
    exact ⟨hcc, hss, hq⟩
def F_X11_nextOf_49 (n0 : Nat) (a0 : Nat) (μ : gw_M) : Option (Int32) := some (-1)
def F_X11_nextOf (n0 : Nat) (a0 : Nat) (v1 : Int32) (μ : gw_M) : Option (Int32) := (F_X11_guestAt n0 a0 v1 μ).bind (fun (r_1 : Int32) => (if 0 ≤ (r_1 + (0 : Int32)) ∧ (r_1 + (0 : Int32)).toNatClampNeg < 20813 then (F_X11_greatest n0 (μ (a0 + 1) (r_1 + (0 : Int32)).toNatClampNeg) μ).bind (fun (r_6 : Int32) => (if 0 ≤ (r_1 + (2 : Int32)) ∧ (r_1 + (2 : Int32)).toNatClampNeg < 20813 then (if ¬ (μ (a0 + 1) (r_1 + (2 : Int32)).toNatClampNeg) = 1 then F_X11_nextOf_49 n0 a0 μ else (if 0 ≤ (r_1 + (1 : Int32)) ∧ (r_1 + (1 : Int32)).toNatClampNeg < 20813 then (F_X11_greatest n0 (μ (a0 + 1) (r_1 + (1 : Int32)).toNatClampNeg) μ).bind (fun (r_13 : Int32) => (if r_6 ≤ r_13 then F_X11_nextOf_49 n0 a0 μ else some r_6)) else none)) else none)) else none))
theorem B_X11_nextOf_49 {l : Launch} {x : gw_C} {d : Nat} {S : gw_S} {Q : Option Value → gw_S → gw_M → Prop} {K : Nat → gw_Kt} {mc ms cc ss : Nat} (hcc : cc ≤ mc) (hss : ss ≤ ms) (hK : gw_cl l x (d + 2) mc ms bsX11_nextOf Q K) {a0 : Nat} (hS0 : gw_sh S 11 a0) {n0 : Nat}  {u1 u2 u3 : Value} {μ : gw_M} {r} (h : F_X11_nextOf_49 n0 a0 μ = some r) (hq : Q (some (.int r)) S μ) : K 49 [.ref a0, u1, u2, u3] [] S μ cc ss := by
  unfold F_X11_nextOf_49 at h
  refine hK _ _ _ _ _ _ _ ?_
  rw [fdX11_nextOf_49]
  simp only [gt_nil, true_and, eq_self, gt_iconst, bkX11_nextOf_49]
  refine hK _ _ _ _ _ _ _ ?_
  rw [fdX11_nextOf_50]
  simp only [gt_nil, true_and, eq_self, gt_iret, gt_retz, bkX11_nextOf_50]
  obtain rfl := gw_inj1 h
  exact ⟨hcc, hss, hq⟩
theorem ok_X11_nextOf {l : Launch} {x : gw_C} {d : Nat} {S : gw_S} {Q : Option Value → gw_S → gw_M → Prop} {v1 : Int32} {a0 : Nat} {n0 : Nat} {μ : gw_M} {r} (hS0 : gw_sh S 11 a0) (h : F_X11_nextOf n0 a0 v1 μ = some r) (hq : Q (some (.int r)) S μ) : gw_ok l x (d + 3) sgX11_nextOf 0 0 [.ref a0, .int v1] S μ Q := by
  refine gw_ok_of stX11_nextOf (lv0 := [.ref a0, .int v1, .retAddr 0, .retAddr 0]) (Nat.le_of_ble_eq_true rfl) rfl rfl ?_
  intro K hK
  have hcc : 0 ≤ 0 := Nat.zero_le _
  have hss : 0 ≤ 0 := Nat.zero_le _
  have ka0_0 : gw_kd S a0 = 11 := (hS0 0 _ rfl).1
  have ra0_0_0 : gw_rf S a0 0 = a0 + 1 := (hS0 0 _ rfl).2.2 (0, 1) (by decide)
  have ka0_1 : gw_kd S (a0 + 1) = 12 := (hS0 1 _ rfl).1
  have la0_1 : gw_ln S (a0 + 1) = 20813 := (hS0 1 _ rfl).2.1
  unfold F_X11_nextOf at h
  refine hK _ _ _ _ _ _ _ ?_
  rw [fdX11_nextOf_0]
  simp only [gt_nil, true_and, eq_self, gt_aload_n, gt_rfk, gw_nth, gt_iload_n, gt_ink, gt_v0, gt_v1, gt_v2, gt_v3, gt_v4, gt_v5, gt_istore_n, gw_set, gt_get_r, gt_get_i, gt_get_z, gt_iconst, gt_iadd, gt_iaload, gt_s1_0, gt_s2_0, gt_s3_0, gt_s4_0, gt_s1_1, gt_s2_1, gt_s3_1, gt_s4_1, gt_acpy, gt_icmp, gt_goto, bkX11_nextOf_0, ka0_0, ra0_0_0, ka0_1, la0_1]
  obtain ⟨r_1, e_3, h⟩ := gw_bnd h
  refine ⟨rfl, 0, 0, hcc, hss, ok_X11_guestAt hS0 e_3 ?_⟩
  simp only [gt_nil, true_and, eq_self, gt_istore_n, gw_set, gt_aload_n, gt_rfk, gw_nth, gt_get_r, gt_get_i, gt_get_z, gt_iload_n, gt_ink, gt_iconst, gt_iadd, gt_iaload, gt_s1_0, gt_s2_0, gt_s3_0, gt_s4_0, gt_s1_1, gt_s2_1, gt_s3_1, gt_s4_1, gt_acpy, gt_icmp, gt_goto, Option.toList, List.cons_append, List.nil_append, Nat.add_zero, ka0_0, ra0_0_0, ka0_1, la0_1]
  obtain ⟨c_5, h⟩ := gw_ife h
  refine ⟨c_5, ?_⟩
  obtain ⟨r_6, e_8, h⟩ := gw_bnd h
  refine ⟨rfl, 0, 0, hcc, hss, ok_X11_greatest e_8 ?_⟩
  simp only [gt_nil, true_and, eq_self, gt_istore_n, gw_set, gt_aload_n, gt_rfk, gw_nth, gt_get_r, gt_get_i, gt_get_z, gt_iload_n, gt_ink, gt_iconst, gt_iadd, gt_iaload, gt_icmp, gt_s1_0, gt_s2_0, gt_s3_0, gt_s4_0, gt_s1_1, gt_s2_1, gt_s3_1, gt_s4_1, gt_acpy, gt_goto, Option.toList, List.cons_append, List.nil_append, Nat.add_zero, ka0_0, ra0_0_0, ka0_1, la0_1]
  obtain ⟨c_10, h⟩ := gw_ife h
  refine ⟨c_10, ?_⟩
  refine ⟨fun c_11 => ?_, fun c_11 => ?_⟩
  · replace h := gw_ifp2 (gw_c2_ne _ _) h c_11
    exact B_X11_nextOf_49 hcc hss hK hS0 h hq
  · replace h := gw_ifn2 (gw_c2_ne _ _) h c_11
    obtain ⟨c_12, h⟩ := gw_ife h
    refine ⟨c_12, ?_⟩
    obtain ⟨r_13, e_15, h⟩ := gw_bnd h
    refine ⟨rfl, 0, 0, hcc, hss, ok_X11_greatest e_15 ?_⟩
    simp only [gt_nil, true_and, eq_self, gt_icmp, gt_iload_n, gt_ink, gw_nth, gt_goto, Option.toList, List.cons_append, List.nil_append, Nat.add_zero, ka0_0, ra0_0_0, ka0_1, la0_1]
    refine ⟨fun c_17 => ?_, fun c_17 => ?_⟩
    · replace h := gw_ifp2 (gw_c2_le _ _) h c_17
      exact B_X11_nextOf_49 hcc hss hK hS0 h hq
    · replace h := gw_ifn2 (gw_c2_le _ _) h c_17
      refine hK _ _ _ _ _ _ _ ?_
      rw [fdX11_nextOf_50]
      simp only [gt_nil, true_and, eq_self, gt_iret, gt_retz, bkX11_nextOf_50, ka0_0, ra0_0_0, ka0_1, la0_1]
      obtain rfl := gw_inj1 h
      exact ⟨hcc, hss, hq⟩
def F_X11_pend (n0 : Nat) (a0 : Nat) (v1 : Int32) (v2 : Int32) (μ : gw_M) : Option (gw_M) := (F_X11_guestAt n0 a0 v1 μ).bind (fun (r_1 : Int32) => (if 0 ≤ (r_1 + (0 : Int32)) ∧ (r_1 + (0 : Int32)).toNatClampNeg < 20813 then (F_X11_has n0 (μ (a0 + 1) (r_1 + (0 : Int32)).toNatClampNeg) v2 μ).bind (fun (r_6 : Int32) => (if r_6 = 0 then (if 0 ≤ (r_1 + (0 : Int32)) ∧ (r_1 + (0 : Int32)).toNatClampNeg < 20813 then (if 0 ≤ (r_1 + (0 : Int32)) ∧ (r_1 + (0 : Int32)).toNatClampNeg < 20813 then gw_let (gw_up μ (a0 + 1) (r_1 + (0 : Int32)).toNatClampNeg ((μ (a0 + 1) (r_1 + (0 : Int32)).toNatClampNeg) ||| ((1 : Int32) <<< (v2 &&& 31)))) (fun (μ_13 : gw_M) => (if 0 ≤ ((r_1 + (146 : Int32)) + v2) ∧ ((r_1 + (146 : Int32)) + v2).toNatClampNeg < 20813 then gw_let (gw_up μ_13 (a0 + 1) ((r_1 + (146 : Int32)) + v2).toNatClampNeg (μ_13 (a0 + 1) 3)) (fun (μ_15 : gw_M) => some μ_15) else none)) else none) else none) else some μ)) else none))
theorem ok_X11_pend {l : Launch} {x : gw_C} {d : Nat} {S : gw_S} {Q : Option Value → gw_S → gw_M → Prop} {v1 v2 : Int32} {a0 : Nat} {n0 : Nat} {μ : gw_M} {μ'} (hS0 : gw_sh S 11 a0) (h : F_X11_pend n0 a0 v1 v2 μ = some μ') (hq : Q none S μ') : gw_ok l x (d + 2) sgX11_pend 0 0 [.ref a0, .int v1, .int v2] S μ Q := by
  refine gw_ok_of stX11_pend (lv0 := [.ref a0, .int v1, .int v2, .retAddr 0]) (Nat.le_of_ble_eq_true rfl) rfl rfl ?_
  intro K hK
  have hcc : 0 ≤ 0 := Nat.zero_le _
  have hss : 0 ≤ 0 := Nat.zero_le _
  have ka0_0 : gw_kd S a0 = 11 := (hS0 0 _ rfl).1
  have ra0_0_0 : gw_rf S a0 0 = a0 + 1 := (hS0 0 _ rfl).2.2 (0, 1) (by decide)
  have ka0_1 : gw_kd S (a0 + 1) = 12 := (hS0 1 _ rfl).1
  have la0_1 : gw_ln S (a0 + 1) = 20813 := (hS0 1 _ rfl).2.1
  unfold F_X11_pend at h
  refine hK _ _ _ _ _ _ _ ?_
  rw [fdX11_pend_0]
  simp only [gt_nil, true_and, eq_self, gt_aload_n, gt_rfk, gw_nth, gt_iload_n, gt_ink, gt_v0, gt_v1, gt_v2, gt_v3, gt_v4, gt_v5, gt_istore_n, gw_set, gt_get_r, gt_get_i, gt_get_z, gt_iconst, gt_iadd, gt_iaload, gt_s1_0, gt_s2_0, gt_s3_0, gt_s4_0, gt_s1_1, gt_s2_1, gt_s3_1, gt_s4_1, gt_acpy, gt_if, gt_vret, bkX11_pend_0, ka0_0, ra0_0_0, ka0_1, la0_1, (show Int32.toNatClampNeg 3 = 3 from rfl)]
  obtain ⟨r_1, e_3, h⟩ := gw_bnd h
  refine ⟨rfl, 0, 0, hcc, hss, ok_X11_guestAt hS0 e_3 ?_⟩
  simp only [gt_nil, true_and, eq_self, gt_istore_n, gw_set, gt_aload_n, gt_rfk, gw_nth, gt_get_r, gt_get_i, gt_get_z, gt_iload_n, gt_ink, gt_iconst, gt_iadd, gt_iaload, gt_s1_0, gt_s2_0, gt_s3_0, gt_s4_0, gt_s1_1, gt_s2_1, gt_s3_1, gt_s4_1, gt_acpy, gt_if, gt_vret, Option.toList, List.cons_append, List.nil_append, Nat.add_zero, ka0_0, ra0_0_0, ka0_1, la0_1, (show Int32.toNatClampNeg 3 = 3 from rfl)]
  obtain ⟨c_5, h⟩ := gw_ife h
  refine ⟨c_5, ?_⟩
  obtain ⟨r_6, e_8, h⟩ := gw_bnd h
  refine ⟨rfl, 0, 0, hcc, hss, ok_X11_has e_8 ?_⟩
  intro hbr_6
  simp only [gt_nil, true_and, eq_self, gt_if, gt_vret, Option.toList, List.cons_append, List.nil_append, Nat.add_zero, ka0_0, ra0_0_0, ka0_1, la0_1, (show Int32.toNatClampNeg 3 = 3 from rfl)]
  refine ⟨fun c_10 => ?_, fun c_10 => ?_⟩
  · replace h := gw_ifp h c_10
    refine hK _ _ _ _ _ _ _ ?_
    rw [fdX11_pend_22]
    simp only [gt_nil, true_and, eq_self, gt_aload_n, gt_rfk, gw_nth, gt_get_r, gt_get_i, gt_get_z, gt_iload_n, gt_ink, gt_iconst, gt_iadd, gt_dup2, gt_iaload, gt_ishl, gt_ior, gt_iastore, gt_sipush, gt_vret, bkX11_pend_22, ka0_0, ra0_0_0, ka0_1, la0_1, (show Int32.toNatClampNeg 3 = 3 from rfl)]
    obtain ⟨c_11, h⟩ := gw_ife h
    refine ⟨c_11, ?_⟩
    obtain ⟨c_12, h⟩ := gw_ife h
    refine ⟨c_12, ?_⟩
    obtain ⟨μ_13, hμ_13, h⟩ := gw_lt h
    try rw [← hμ_13]
    refine ⟨(⟨by decide, by decide⟩ : gw_in 3 20813), ?_⟩
    obtain ⟨c_14, h⟩ := gw_ife h
    refine ⟨c_14, ?_⟩
    obtain ⟨μ_15, hμ_15, h⟩ := gw_lt h
    try rw [← hμ_15]
    obtain rfl := gw_inj1 h
    exact ⟨hcc, hss, hq⟩
  · replace h := gw_ifn h c_10
    obtain rfl := gw_inj1 h
    exact ⟨hcc, hss, hq⟩
def F_X11_sinceOf (n0 : Nat) (a0 : Nat) (v1 : Int32) (v2 : Int32) (μ : gw_M) : Option (Int32) := (F_X11_guestAt n0 a0 v1 μ).bind (fun (r_1 : Int32) => (if 0 ≤ ((r_1 + (146 : Int32)) + v2) ∧ ((r_1 + (146 : Int32)) + v2).toNatClampNeg < 20813 then some ((μ (a0 + 1) 3) - (μ (a0 + 1) ((r_1 + (146 : Int32)) + v2).toNatClampNeg)) else none))
theorem ok_X11_sinceOf {l : Launch} {x : gw_C} {d : Nat} {S : gw_S} {Q : Option Value → gw_S → gw_M → Prop} {v1 v2 : Int32} {a0 : Nat} {n0 : Nat} {μ : gw_M} {r} (hS0 : gw_sh S 11 a0) (h : F_X11_sinceOf n0 a0 v1 v2 μ = some r) (hq : Q (some (.int r)) S μ) : gw_ok l x (d + 2) sgX11_sinceOf 0 0 [.ref a0, .int v1, .int v2] S μ Q := by
  refine gw_ok_of stX11_sinceOf (lv0 := [.ref a0, .int v1, .int v2]) (Nat.le_of_ble_eq_true rfl) rfl rfl ?_
  intro K hK
  have hcc : 0 ≤ 0 := Nat.zero_le _
  have hss : 0 ≤ 0 := Nat.zero_le _
  have ka0_0 : gw_kd S a0 = 11 := (hS0 0 _ rfl).1
  have ra0_0_0 : gw_rf S a0 0 = a0 + 1 := (hS0 0 _ rfl).2.2 (0, 1) (by decide)
  have ka0_1 : gw_kd S (a0 + 1) = 12 := (hS0 1 _ rfl).1
  have la0_1 : gw_ln S (a0 + 1) = 20813 := (hS0 1 _ rfl).2.1
  unfold F_X11_sinceOf at h
  refine hK _ _ _ _ _ _ _ ?_
  rw [fdX11_sinceOf_0]
  simp only [gt_nil, true_and, eq_self, gt_aload_n, gt_rfk, gw_nth, gt_get_r, gt_get_i, gt_get_z, gt_iconst, gt_iaload, gt_iload_n, gt_ink, gt_v0, gt_v1, gt_v2, gt_v3, gt_v4, gt_v5, gt_sipush, gt_iadd, gt_isub, gt_iret, gt_retz, bkX11_sinceOf_0, ka0_0, ra0_0_0, ka0_1, la0_1, (show Int32.toNatClampNeg 3 = 3 from rfl)]
  refine ⟨(⟨by decide, by decide⟩ : gw_in 3 20813), ?_⟩
  obtain ⟨r_1, e_3, h⟩ := gw_bnd h
  refine ⟨rfl, 0, 0, hcc, hss, ok_X11_guestAt hS0 e_3 ?_⟩
  simp only [gt_nil, true_and, eq_self, gt_sipush, gt_iadd, gt_iload_n, gt_ink, gw_nth, gt_iaload, gt_isub, gt_iret, gt_retz, Option.toList, List.cons_append, List.nil_append, Nat.add_zero, ka0_0, ra0_0_0, ka0_1, la0_1, (show Int32.toNatClampNeg 3 = 3 from rfl)]
  obtain ⟨c_5, h⟩ := gw_ife h
  refine ⟨c_5, ?_⟩
  obtain rfl := gw_inj1 h
  exact ⟨hcc, hss, hq⟩
def F_X11_take_43 (n0 : Nat) (a0 : Nat) (v1 : Int32) (v2 : Int32) (v3 : Int32) (μ : gw_M) : Option (gw_M) := (if 0 ≤ ((v3 + (146 : Int32)) + v2) ∧ ((v3 + (146 : Int32)) + v2).toNatClampNeg < 20813 then gw_let (gw_up μ (a0 + 1) ((v3 + (146 : Int32)) + v2).toNatClampNeg 0) (fun (μ_2 : gw_M) => (if 0 ≤ (v3 + (0 : Int32)) ∧ (v3 + (0 : Int32)).toNatClampNeg < 20813 then (if 0 ≤ (v3 + (0 : Int32)) ∧ (v3 + (0 : Int32)).toNatClampNeg < 20813 then gw_let (gw_up μ_2 (a0 + 1) (v3 + (0 : Int32)).toNatClampNeg ((μ_2 (a0 + 1) (v3 + (0 : Int32)).toNatClampNeg) &&& (((1 : Int32) <<< (v2 &&& 31)) ^^^ ((-1) : Int32)))) (fun (μ_5 : gw_M) => (if 0 ≤ (v3 + (1 : Int32)) ∧ (v3 + (1 : Int32)).toNatClampNeg < 20813 then (if 0 ≤ (v3 + (1 : Int32)) ∧ (v3 + (1 : Int32)).toNatClampNeg < 20813 then gw_let (gw_up μ_5 (a0 + 1) (v3 + (1 : Int32)).toNatClampNeg ((μ_5 (a0 + 1) (v3 + (1 : Int32)).toNatClampNeg) ||| ((1 : Int32) <<< (v2 &&& 31)))) (fun (μ_8 : gw_M) => (if 0 ≤ (((9 : Int32) + v1) - (1 : Int32)) ∧ (((9 : Int32) + v1) - (1 : Int32)).toNatClampNeg < 20813 then (if 0 ≤ (((9 : Int32) + v1) - (1 : Int32)) ∧ (((9 : Int32) + v1) - (1 : Int32)).toNatClampNeg < 20813 then gw_let (gw_up μ_8 (a0 + 1) (((9 : Int32) + v1) - (1 : Int32)).toNatClampNeg ((μ_8 (a0 + 1) (((9 : Int32) + v1) - (1 : Int32)).toNatClampNeg) + (1 : Int32))) (fun (μ_11 : gw_M) => (if 0 ≤ (((19 : Int32) + v1) - (1 : Int32)) ∧ (((19 : Int32) + v1) - (1 : Int32)).toNatClampNeg < 20813 then gw_let (gw_up μ_11 (a0 + 1) (((19 : Int32) + v1) - (1 : Int32)).toNatClampNeg v2) (fun (μ_13 : gw_M) => some μ_13) else none)) else none) else none)) else none) else none)) else none) else none)) else none)
def F_X11_take (n0 : Nat) (a0 : Nat) (v1 : Int32) (v2 : Int32) (μ : gw_M) : Option (gw_M) := (F_X11_guestAt n0 a0 v1 μ).bind (fun (r_1 : Int32) => (F_X11_sinceOf n0 a0 v1 v2 μ).bind (fun (r_5 : Int32) => (if 0 ≤ (((56 : Int32) + v1) - (1 : Int32)) ∧ (((56 : Int32) + v1) - (1 : Int32)).toNatClampNeg < 20813 then (if r_5 ≤ (μ (a0 + 1) (((56 : Int32) + v1) - (1 : Int32)).toNatClampNeg) then F_X11_take_43 n0 a0 v1 v2 r_1 μ else (F_X11_sinceOf n0 a0 v1 v2 μ).bind (fun (r_11 : Int32) => (if 0 ≤ (((56 : Int32) + v1) - (1 : Int32)) ∧ (((56 : Int32) + v1) - (1 : Int32)).toNatClampNeg < 20813 then gw_let (gw_up μ (a0 + 1) (((56 : Int32) + v1) - (1 : Int32)).toNatClampNeg r_11) (fun (μ_16 : gw_M) => F_X11_take_43 n0 a0 v1 v2 r_1 μ_16) else none))) else none)))
theorem B_X11_take_43 {l : Launch} {x : gw_C} {d : Nat} {S : gw_S} {Q : Option Value → gw_S → gw_M → Prop} {K : Nat → gw_Kt} {mc ms cc ss : Nat} (hcc : cc ≤ mc) (hss : ss ≤ ms) (hK : gw_cl l x (d + 2) mc ms bsX11_take Q K) {a0 : Nat} (hS0 : gw_sh S 11 a0) {n0 : Nat} {v1 v2 v3} {μ : gw_M} {μ'} (h : F_X11_take_43 n0 a0 v1 v2 v3 μ = some μ') (hq : Q none S μ') : K 43 [.ref a0, .int v1, .int v2, .int v3] [] S μ cc ss := by
  have ka0_0 : gw_kd S a0 = 11 := (hS0 0 _ rfl).1
  have ra0_0_0 : gw_rf S a0 0 = a0 + 1 := (hS0 0 _ rfl).2.2 (0, 1) (by decide)
  have ka0_1 : gw_kd S (a0 + 1) = 12 := (hS0 1 _ rfl).1
  have la0_1 : gw_ln S (a0 + 1) = 20813 := (hS0 1 _ rfl).2.1
  unfold F_X11_take_43 at h
  refine hK _ _ _ _ _ _ _ ?_
  rw [fdX11_take_43]
  simp only [gt_nil, true_and, eq_self, gt_aload_n, gt_rfk, gw_nth, gt_get_r, gt_get_i, gt_get_z, gt_iload_n, gt_ink, gt_sipush, gt_iadd, gt_iconst, gt_iastore, gt_dup2, gt_iaload, gt_ishl, gt_ixor, gt_iand, gt_ior, gt_bipush, gt_isub, gt_vret, bkX11_take_43, ka0_0, ra0_0_0, ka0_1, la0_1]
  obtain ⟨c_1, h⟩ := gw_ife h
  refine ⟨c_1, ?_⟩
  obtain ⟨μ_2, hμ_2, h⟩ := gw_lt h
  try rw [← hμ_2]
  obtain ⟨c_3, h⟩ := gw_ife h
  refine ⟨c_3, ?_⟩
  obtain ⟨c_4, h⟩ := gw_ife h
  refine ⟨c_4, ?_⟩
  obtain ⟨μ_5, hμ_5, h⟩ := gw_lt h
  try rw [← hμ_5]
  obtain ⟨c_6, h⟩ := gw_ife h
  refine ⟨c_6, ?_⟩
  obtain ⟨c_7, h⟩ := gw_ife h
  refine ⟨c_7, ?_⟩
  obtain ⟨μ_8, hμ_8, h⟩ := gw_lt h
  try rw [← hμ_8]
  obtain ⟨c_9, h⟩ := gw_ife h
  refine ⟨c_9, ?_⟩
  obtain ⟨c_10, h⟩ := gw_ife h
  refine ⟨c_10, ?_⟩
  obtain ⟨μ_11, hμ_11, h⟩ := gw_lt h
  try rw [← hμ_11]
  obtain ⟨c_12, h⟩ := gw_ife h
  refine ⟨c_12, ?_⟩
  obtain ⟨μ_13, hμ_13, h⟩ := gw_lt h
  try rw [← hμ_13]
  obtain rfl := gw_inj1 h
  exact ⟨hcc, hss, hq⟩
theorem ok_X11_take {l : Launch} {x : gw_C} {d : Nat} {S : gw_S} {Q : Option Value → gw_S → gw_M → Prop} {v1 v2 : Int32} {a0 : Nat} {n0 : Nat} {μ : gw_M} {μ'} (hS0 : gw_sh S 11 a0) (h : F_X11_take n0 a0 v1 v2 μ = some μ') (hq : Q none S μ') : gw_ok l x (d + 3) sgX11_take 0 0 [.ref a0, .int v1, .int v2] S μ Q := by
  refine gw_ok_of stX11_take (lv0 := [.ref a0, .int v1, .int v2, .retAddr 0]) (Nat.le_of_ble_eq_true rfl) rfl rfl ?_
  intro K hK
  have hcc : 0 ≤ 0 := Nat.zero_le _
  have hss : 0 ≤ 0 := Nat.zero_le _
  have ka0_0 : gw_kd S a0 = 11 := (hS0 0 _ rfl).1
  have ra0_0_0 : gw_rf S a0 0 = a0 + 1 := (hS0 0 _ rfl).2.2 (0, 1) (by decide)
  have ka0_1 : gw_kd S (a0 + 1) = 12 := (hS0 1 _ rfl).1
  have la0_1 : gw_ln S (a0 + 1) = 20813 := (hS0 1 _ rfl).2.1
  unfold F_X11_take at h
  refine hK _ _ _ _ _ _ _ ?_
  rw [fdX11_take_0]
  simp only [gt_nil, true_and, eq_self, gt_aload_n, gt_rfk, gw_nth, gt_iload_n, gt_ink, gt_v0, gt_v1, gt_v2, gt_v3, gt_v4, gt_v5, gt_istore_n, gw_set, gt_get_r, gt_get_i, gt_get_z, gt_bipush, gt_iadd, gt_iconst, gt_isub, gt_iaload, gt_icmp, gt_iastore, bkX11_take_0, ka0_0, ra0_0_0, ka0_1, la0_1]
  obtain ⟨r_1, e_3, h⟩ := gw_bnd h
  refine ⟨rfl, 0, 0, hcc, hss, ok_X11_guestAt hS0 e_3 ?_⟩
  simp only [gt_nil, true_and, eq_self, gt_istore_n, gw_set, gt_aload_n, gt_rfk, gw_nth, gt_iload_n, gt_ink, gt_v0, gt_v1, gt_v2, gt_v3, gt_v4, gt_v5, gt_get_r, gt_get_i, gt_get_z, gt_bipush, gt_iadd, gt_iconst, gt_isub, gt_iaload, gt_icmp, gt_iastore, Option.toList, List.cons_append, List.nil_append, Nat.add_zero, ka0_0, ra0_0_0, ka0_1, la0_1]
  obtain ⟨r_5, e_7, h⟩ := gw_bnd h
  refine ⟨rfl, 0, 0, hcc, hss, ok_X11_sinceOf hS0 e_7 ?_⟩
  simp only [gt_nil, true_and, eq_self, gt_aload_n, gt_rfk, gw_nth, gt_get_r, gt_get_i, gt_get_z, gt_bipush, gt_iload_n, gt_ink, gt_iadd, gt_iconst, gt_isub, gt_iaload, gt_icmp, gt_v0, gt_v1, gt_v2, gt_v3, gt_v4, gt_v5, gt_iastore, Option.toList, List.cons_append, List.nil_append, Nat.add_zero, ka0_0, ra0_0_0, ka0_1, la0_1]
  obtain ⟨c_9, h⟩ := gw_ife h
  refine ⟨c_9, ?_⟩
  refine ⟨fun c_10 => ?_, fun c_10 => ?_⟩
  · replace h := gw_ifp2 (gw_c2_le _ _) h c_10
    exact B_X11_take_43 hcc hss hK hS0 h hq
  · replace h := gw_ifn2 (gw_c2_le _ _) h c_10
    obtain ⟨r_11, e_13, h⟩ := gw_bnd h
    refine ⟨rfl, 0, 0, hcc, hss, ok_X11_sinceOf hS0 e_13 ?_⟩
    simp only [gt_nil, true_and, eq_self, gt_iastore, Option.toList, List.cons_append, List.nil_append, Nat.add_zero, ka0_0, ra0_0_0, ka0_1, la0_1]
    obtain ⟨c_15, h⟩ := gw_ife h
    refine ⟨c_15, ?_⟩
    obtain ⟨μ_16, hμ_16, h⟩ := gw_lt h
    try rw [← hμ_16]
    exact B_X11_take_43 hcc hss hK hS0 h hq
def F_X11_dealOut_34 (n0 : Nat) (a0 : Nat) (μ : gw_M) : Option (gw_M) := (if ¬ (μ (a0 + 1) 2) = 2 then some μ else (F_X11_nextOf n0 a0 2 μ).bind (fun (r_2 : Int32) => (if r_2 = (-1) then some μ else (F_X11_nextOf n0 a0 2 μ).bind (fun (r_7 : Int32) => (F_X11_take n0 a0 2 r_7 μ).bind (fun (μ_12 : gw_M) => some μ_12)))))
def F_X11_dealOut_28 (n0 : Nat) (a0 : Nat) (v1 : Int32) (μ : gw_M) : Option (gw_M) := (F_X11_take n0 a0 1 v1 μ).bind (fun (μ_2 : gw_M) => F_X11_dealOut_34 n0 a0 μ_2)
def F_X11_dealOut (n0 : Nat) (a0 : Nat) (μ : gw_M) : Option (gw_M) := (F_X11_nextOf n0 a0 1 μ).bind (fun (r_1 : Int32) => (if r_1 = (-1) then F_X11_dealOut_34 n0 a0 μ else (if ¬ (μ (a0 + 1) 2) = 2 then F_X11_dealOut_28 n0 a0 r_1 μ else (F_X11_deal n0 a0 6 r_1 μ).bind (fun (μ_8 : gw_M) => F_X11_dealOut_28 n0 a0 r_1 μ_8))))
theorem B_X11_dealOut_34 {l : Launch} {x : gw_C} {d : Nat} {S : gw_S} {Q : Option Value → gw_S → gw_M → Prop} {K : Nat → gw_Kt} {mc ms cc ss : Nat} (hcc : cc ≤ mc) (hss : ss ≤ ms) (hK : gw_cl l x (d + 3) mc ms bsX11_dealOut Q K) {a0 : Nat} (hS0 : gw_sh S 11 a0) {n0 : Nat}  {u1 : Value} {μ : gw_M} {μ'} (h : F_X11_dealOut_34 n0 a0 μ = some μ') (hq : Q none S μ') : K 34 [.ref a0, u1] [] S μ cc ss := by
  have ka0_0 : gw_kd S a0 = 11 := (hS0 0 _ rfl).1
  have ra0_0_0 : gw_rf S a0 0 = a0 + 1 := (hS0 0 _ rfl).2.2 (0, 1) (by decide)
  have ka0_1 : gw_kd S (a0 + 1) = 12 := (hS0 1 _ rfl).1
  have la0_1 : gw_ln S (a0 + 1) = 20813 := (hS0 1 _ rfl).2.1
  unfold F_X11_dealOut_34 at h
  refine hK _ _ _ _ _ _ _ ?_
  rw [fdX11_dealOut_34]
  simp only [gt_nil, true_and, eq_self, gt_aload_n, gt_rfk, gw_nth, gt_get_r, gt_get_i, gt_get_z, gt_iconst, gt_iaload, gt_icmp, gt_v0, gt_v1, gt_v2, gt_v3, gt_v4, gt_v5, bkX11_dealOut_34, ka0_0, ra0_0_0, ka0_1, la0_1, (show Int32.toNatClampNeg 2 = 2 from rfl)]
  refine ⟨(⟨by decide, by decide⟩ : gw_in 2 20813), ?_⟩
  refine ⟨fun c_1 => ?_, fun c_1 => ?_⟩
  · replace h := gw_ifp2 (gw_c2_ne _ _) h c_1
    refine hK _ _ _ _ _ _ _ ?_
    rw [fdX11_dealOut_63]
    simp only [gt_nil, true_and, eq_self, gt_vret, bkX11_dealOut_63, ka0_0, ra0_0_0, ka0_1, la0_1, (show Int32.toNatClampNeg 2 = 2 from rfl)]
    obtain rfl := gw_inj1 h
    exact ⟨hcc, hss, hq⟩
  · replace h := gw_ifn2 (gw_c2_ne _ _) h c_1
    obtain ⟨r_2, e_4, h⟩ := gw_bnd h
    refine ⟨rfl, 0, 0, hcc, hss, ok_X11_nextOf hS0 e_4 ?_⟩
    simp only [gt_nil, true_and, eq_self, gt_iconst, gt_icmp, gt_aload_n, gt_rfk, gw_nth, gt_v0, gt_v1, gt_v2, gt_v3, gt_v4, gt_v5, Option.toList, List.cons_append, List.nil_append, Nat.add_zero, ka0_0, ra0_0_0, ka0_1, la0_1, (show Int32.toNatClampNeg 2 = 2 from rfl)]
    refine ⟨fun c_6 => ?_, fun c_6 => ?_⟩
    · replace h := gw_ifp2 (gw_c2_eq _ _) h c_6
      refine hK _ _ _ _ _ _ _ ?_
      rw [fdX11_dealOut_63]
      simp only [gt_nil, true_and, eq_self, gt_vret, bkX11_dealOut_63, ka0_0, ra0_0_0, ka0_1, la0_1, (show Int32.toNatClampNeg 2 = 2 from rfl)]
      obtain rfl := gw_inj1 h
      exact ⟨hcc, hss, hq⟩
    · replace h := gw_ifn2 (gw_c2_eq _ _) h c_6
      obtain ⟨r_7, e_9, h⟩ := gw_bnd h
      refine ⟨rfl, 0, 0, hcc, hss, ok_X11_nextOf hS0 e_9 ?_⟩
      simp only [gt_nil, true_and, eq_self, gt_v0, gt_v1, gt_v2, gt_v3, gt_v4, gt_v5, Option.toList, List.cons_append, List.nil_append, Nat.add_zero, ka0_0, ra0_0_0, ka0_1, la0_1, (show Int32.toNatClampNeg 2 = 2 from rfl)]
      obtain ⟨μ_12, e_13, h⟩ := gw_bnd h
      refine ⟨rfl, 0, 0, hcc, hss, ok_X11_take hS0 e_13 ?_⟩
      simp only [gt_nil, true_and, eq_self, Option.toList, List.cons_append, List.nil_append, Nat.add_zero, ka0_0, ra0_0_0, ka0_1, la0_1, (show Int32.toNatClampNeg 2 = 2 from rfl)]
      refine hK _ _ _ _ _ _ _ ?_
      rw [fdX11_dealOut_63]
      simp only [gt_nil, true_and, eq_self, gt_vret, bkX11_dealOut_63, ka0_0, ra0_0_0, ka0_1, la0_1, (show Int32.toNatClampNeg 2 = 2 from rfl)]
      obtain rfl := gw_inj1 h
      exact ⟨hcc, hss, hq⟩
theorem B_X11_dealOut_28 {l : Launch} {x : gw_C} {d : Nat} {S : gw_S} {Q : Option Value → gw_S → gw_M → Prop} {K : Nat → gw_Kt} {mc ms cc ss : Nat} (hcc : cc ≤ mc) (hss : ss ≤ ms) (hK : gw_cl l x (d + 3) mc ms bsX11_dealOut Q K) {a0 : Nat} (hS0 : gw_sh S 11 a0) {n0 : Nat} {v1} {μ : gw_M} {μ'} (h : F_X11_dealOut_28 n0 a0 v1 μ = some μ') (hq : Q none S μ') : K 28 [.ref a0, .int v1] [] S μ cc ss := by
  have ka0_0 : gw_kd S a0 = 11 := (hS0 0 _ rfl).1
  unfold F_X11_dealOut_28 at h
  refine hK _ _ _ _ _ _ _ ?_
  rw [fdX11_dealOut_28]
  simp only [gt_nil, true_and, eq_self, gt_aload_n, gt_rfk, gw_nth, gt_iconst, gt_iload_n, gt_ink, gt_v0, gt_v1, gt_v2, gt_v3, gt_v4, gt_v5, bkX11_dealOut_28, ka0_0]
  obtain ⟨μ_2, e_3, h⟩ := gw_bnd h
  refine ⟨rfl, 0, 0, hcc, hss, ok_X11_take hS0 e_3 ?_⟩
  simp only [gt_nil, true_and, eq_self, Option.toList, List.cons_append, List.nil_append, Nat.add_zero, ka0_0]
  exact B_X11_dealOut_34 hcc hss hK hS0 h hq
theorem ok_X11_dealOut {l : Launch} {x : gw_C} {d : Nat} {S : gw_S} {Q : Option Value → gw_S → gw_M → Prop} {a0 : Nat} {n0 : Nat} {μ : gw_M} {μ'} (hS0 : gw_sh S 11 a0) (h : F_X11_dealOut n0 a0 μ = some μ') (hq : Q none S μ') : gw_ok l x (d + 4) sgX11_dealOut 0 0 [.ref a0] S μ Q := by
  refine gw_ok_of stX11_dealOut (lv0 := [.ref a0, .retAddr 0]) (Nat.le_of_ble_eq_true rfl) rfl rfl ?_
  intro K hK
  have hcc : 0 ≤ 0 := Nat.zero_le _
  have hss : 0 ≤ 0 := Nat.zero_le _
  have ka0_0 : gw_kd S a0 = 11 := (hS0 0 _ rfl).1
  have ra0_0_0 : gw_rf S a0 0 = a0 + 1 := (hS0 0 _ rfl).2.2 (0, 1) (by decide)
  have ka0_1 : gw_kd S (a0 + 1) = 12 := (hS0 1 _ rfl).1
  have la0_1 : gw_ln S (a0 + 1) = 20813 := (hS0 1 _ rfl).2.1
  unfold F_X11_dealOut at h
  refine hK _ _ _ _ _ _ _ ?_
  rw [fdX11_dealOut_0]
  simp only [gt_nil, true_and, eq_self, gt_aload_n, gt_rfk, gw_nth, gt_iconst, gt_v0, gt_v1, gt_v2, gt_v3, gt_v4, gt_v5, gt_istore_n, gw_set, gt_iload_n, gt_ink, gt_icmp, gt_get_r, gt_get_i, gt_get_z, gt_iaload, gt_bipush, bkX11_dealOut_0, ka0_0, ra0_0_0, ka0_1, la0_1, (show Int32.toNatClampNeg 2 = 2 from rfl)]
  obtain ⟨r_1, e_3, h⟩ := gw_bnd h
  refine ⟨rfl, 0, 0, hcc, hss, ok_X11_nextOf hS0 e_3 ?_⟩
  simp only [gt_nil, true_and, eq_self, gt_istore_n, gw_set, gt_iload_n, gt_ink, gw_nth, gt_iconst, gt_icmp, gt_aload_n, gt_rfk, gt_get_r, gt_get_i, gt_get_z, gt_iaload, gt_bipush, gt_v0, gt_v1, gt_v2, gt_v3, gt_v4, gt_v5, Option.toList, List.cons_append, List.nil_append, Nat.add_zero, ka0_0, ra0_0_0, ka0_1, la0_1, (show Int32.toNatClampNeg 2 = 2 from rfl)]
  refine ⟨fun c_5 => ?_, fun c_5 => ?_⟩
  · replace h := gw_ifp2 (gw_c2_eq _ _) h c_5
    exact B_X11_dealOut_34 hcc hss hK hS0 h hq
  · replace h := gw_ifn2 (gw_c2_eq _ _) h c_5
    refine ⟨(⟨by decide, by decide⟩ : gw_in 2 20813), ?_⟩
    refine ⟨fun c_6 => ?_, fun c_6 => ?_⟩
    · replace h := gw_ifp2 (gw_c2_ne _ _) h c_6
      exact B_X11_dealOut_28 hcc hss hK hS0 h hq
    · replace h := gw_ifn2 (gw_c2_ne _ _) h c_6
      obtain ⟨μ_8, e_9, h⟩ := gw_bnd h
      refine ⟨rfl, 0, 0, hcc, hss, ok_X11_deal hS0 e_9 ?_⟩
      simp only [gt_nil, true_and, eq_self, Option.toList, List.cons_append, List.nil_append, Nat.add_zero, ka0_0, ra0_0_0, ka0_1, la0_1, (show Int32.toNatClampNeg 2 = 2 from rfl)]
      exact B_X11_dealOut_28 hcc hss hK hS0 h hq
def F_X11_endNow (n0 : Nat) (a0 : Nat) (v1 : Int32) (μ : gw_M) : Option (Int32 × gw_M) := (F_X11_guestAt n0 a0 v1 μ).bind (fun (r_1 : Int32) => (if 0 ≤ (r_1 + (1 : Int32)) ∧ (r_1 + (1 : Int32)).toNatClampNeg < 20813 then (F_X11_greatest n0 (μ (a0 + 1) (r_1 + (1 : Int32)).toNatClampNeg) μ).bind (fun (r_6 : Int32) => (if r_6 = (-1) then some (r_6, μ) else (F_X11_guestAt n0 a0 v1 μ).bind (fun (r_11 : Int32) => (if 0 ≤ (r_11 + (1 : Int32)) ∧ (r_11 + (1 : Int32)).toNatClampNeg < 20813 then (if 0 ≤ (r_11 + (1 : Int32)) ∧ (r_11 + (1 : Int32)).toNatClampNeg < 20813 then gw_let (gw_up μ (a0 + 1) (r_11 + (1 : Int32)).toNatClampNeg ((μ (a0 + 1) (r_11 + (1 : Int32)).toNatClampNeg) &&& (((1 : Int32) <<< (r_6 &&& 31)) ^^^ ((-1) : Int32)))) (fun (μ_17 : gw_M) => some (r_6, μ_17)) else none) else none)))) else none))
theorem ok_X11_endNow {l : Launch} {x : gw_C} {d : Nat} {S : gw_S} {Q : Option Value → gw_S → gw_M → Prop} {v1 : Int32} {a0 : Nat} {n0 : Nat} {μ : gw_M} {r μ'} (hS0 : gw_sh S 11 a0) (h : F_X11_endNow n0 a0 v1 μ = some (r, μ')) (hq : Q (some (.int r)) S μ') : gw_ok l x (d + 3) sgX11_endNow 0 0 [.ref a0, .int v1] S μ Q := by
  refine gw_ok_of stX11_endNow (lv0 := [.ref a0, .int v1, .retAddr 0]) (Nat.le_of_ble_eq_true rfl) rfl rfl ?_
  intro K hK
  have hcc : 0 ≤ 0 := Nat.zero_le _
  have hss : 0 ≤ 0 := Nat.zero_le _
  have ka0_0 : gw_kd S a0 = 11 := (hS0 0 _ rfl).1
  have ra0_0_0 : gw_rf S a0 0 = a0 + 1 := (hS0 0 _ rfl).2.2 (0, 1) (by decide)
  have ka0_1 : gw_kd S (a0 + 1) = 12 := (hS0 1 _ rfl).1
  have la0_1 : gw_ln S (a0 + 1) = 20813 := (hS0 1 _ rfl).2.1
  unfold F_X11_endNow at h
  refine hK _ _ _ _ _ _ _ ?_
  rw [fdX11_endNow_0]
  simp only [gt_nil, true_and, eq_self, gt_aload_n, gt_rfk, gw_nth, gt_get_r, gt_get_i, gt_get_z, gt_iload_n, gt_ink, gt_v0, gt_v1, gt_v2, gt_v3, gt_v4, gt_v5, gt_iconst, gt_iadd, gt_iaload, gt_s1_0, gt_s2_0, gt_s3_0, gt_s4_0, gt_s1_1, gt_s2_1, gt_s3_1, gt_s4_1, gt_acpy, gt_istore_n, gw_set, gt_icmp, gt_dup2, gt_ishl, gt_ixor, gt_iand, gt_iastore, bkX11_endNow_0, ka0_0, ra0_0_0, ka0_1, la0_1]
  obtain ⟨r_1, e_3, h⟩ := gw_bnd h
  refine ⟨rfl, 0, 0, hcc, hss, ok_X11_guestAt hS0 e_3 ?_⟩
  simp only [gt_nil, true_and, eq_self, gt_iconst, gt_iadd, gt_iaload, gt_s1_0, gt_s2_0, gt_s3_0, gt_s4_0, gt_s1_1, gt_s2_1, gt_s3_1, gt_s4_1, gt_acpy, gt_istore_n, gw_set, gt_iload_n, gt_ink, gw_nth, gt_icmp, gt_aload_n, gt_rfk, gt_get_r, gt_get_i, gt_get_z, gt_v0, gt_v1, gt_v2, gt_v3, gt_v4, gt_v5, gt_dup2, gt_ishl, gt_ixor, gt_iand, gt_iastore, Option.toList, List.cons_append, List.nil_append, Nat.add_zero, ka0_0, ra0_0_0, ka0_1, la0_1]
  obtain ⟨c_5, h⟩ := gw_ife h
  refine ⟨c_5, ?_⟩
  obtain ⟨r_6, e_8, h⟩ := gw_bnd h
  refine ⟨rfl, 0, 0, hcc, hss, ok_X11_greatest e_8 ?_⟩
  simp only [gt_nil, true_and, eq_self, gt_istore_n, gw_set, gt_iload_n, gt_ink, gw_nth, gt_iconst, gt_icmp, gt_aload_n, gt_rfk, gt_get_r, gt_get_i, gt_get_z, gt_v0, gt_v1, gt_v2, gt_v3, gt_v4, gt_v5, gt_iadd, gt_dup2, gt_iaload, gt_ishl, gt_ixor, gt_iand, gt_iastore, Option.toList, List.cons_append, List.nil_append, Nat.add_zero, ka0_0, ra0_0_0, ka0_1, la0_1]
  refine ⟨fun c_10 => ?_, fun c_10 => ?_⟩
  · replace h := gw_ifp2 (gw_c2_eq _ _) h c_10
    refine hK _ _ _ _ _ _ _ ?_
    rw [fdX11_endNow_41]
    simp only [gt_nil, true_and, eq_self, gt_iload_n, gt_ink, gw_nth, gt_iret, gt_retz, bkX11_endNow_41, ka0_0, ra0_0_0, ka0_1, la0_1]
    obtain ⟨rfl, rfl⟩ := gw_inj2 h
    exact ⟨hcc, hss, hq⟩
  · replace h := gw_ifn2 (gw_c2_eq _ _) h c_10
    obtain ⟨r_11, e_13, h⟩ := gw_bnd h
    refine ⟨rfl, 0, 0, hcc, hss, ok_X11_guestAt hS0 e_13 ?_⟩
    simp only [gt_nil, true_and, eq_self, gt_iconst, gt_iadd, gt_dup2, gt_iaload, gt_iload_n, gt_ink, gw_nth, gt_ishl, gt_ixor, gt_iand, gt_iastore, Option.toList, List.cons_append, List.nil_append, Nat.add_zero, ka0_0, ra0_0_0, ka0_1, la0_1]
    obtain ⟨c_15, h⟩ := gw_ife h
    refine ⟨c_15, ?_⟩
    obtain ⟨c_16, h⟩ := gw_ife h
    refine ⟨c_16, ?_⟩
    obtain ⟨μ_17, hμ_17, h⟩ := gw_lt h
    try rw [← hμ_17]
    refine hK _ _ _ _ _ _ _ ?_
    rw [fdX11_endNow_41]
    simp only [gt_nil, true_and, eq_self, gt_iload_n, gt_ink, gw_nth, gt_iret, gt_retz, bkX11_endNow_41, ka0_0, ra0_0_0, ka0_1, la0_1]
    obtain ⟨rfl, rfl⟩ := gw_inj2 h
    exact ⟨hcc, hss, hq⟩
def F_X11_enterNow (n0 : Nat) (a0 : Nat) (μ : gw_M) : Option (gw_M) := gw_let (gw_up μ (a0 + 1) 2 2) (fun (μ_1 : gw_M) => gw_let (gw_up μ_1 (a0 + 1) 12 (μ_1 (a0 + 1) 11)) (fun (μ_2 : gw_M) => some μ_2))
theorem ok_X11_enterNow {l : Launch} {x : gw_C} {d : Nat} {S : gw_S} {Q : Option Value → gw_S → gw_M → Prop} {a0 : Nat} {n0 : Nat} {μ : gw_M} {μ'} (hS0 : gw_sh S 11 a0) (h : F_X11_enterNow n0 a0 μ = some μ') (hq : Q none S μ') : gw_ok l x (d + 1) sgX11_enterNow 0 0 [.ref a0] S μ Q := by
  refine gw_ok_of stX11_enterNow (lv0 := [.ref a0]) (Nat.le_of_ble_eq_true rfl) rfl rfl ?_
  intro K hK
  have hcc : 0 ≤ 0 := Nat.zero_le _
  have hss : 0 ≤ 0 := Nat.zero_le _
  have ka0_0 : gw_kd S a0 = 11 := (hS0 0 _ rfl).1
  have ra0_0_0 : gw_rf S a0 0 = a0 + 1 := (hS0 0 _ rfl).2.2 (0, 1) (by decide)
  have ka0_1 : gw_kd S (a0 + 1) = 12 := (hS0 1 _ rfl).1
  have la0_1 : gw_ln S (a0 + 1) = 20813 := (hS0 1 _ rfl).2.1
  unfold F_X11_enterNow at h
  refine hK _ _ _ _ _ _ _ ?_
  rw [fdX11_enterNow_0]
  simp only [gt_nil, true_and, eq_self, gt_aload_n, gt_rfk, gw_nth, gt_get_r, gt_get_i, gt_get_z, gt_iconst, gt_iastore, gt_bipush, gt_iaload, gt_vret, bkX11_enterNow_0, ka0_0, ra0_0_0, ka0_1, la0_1, (show Int32.toNatClampNeg 11 = 11 from rfl), (show Int32.toNatClampNeg 12 = 12 from rfl), (show Int32.toNatClampNeg 2 = 2 from rfl)]
  refine ⟨(⟨by decide, by decide⟩ : gw_in 2 20813), ?_⟩
  obtain ⟨μ_1, hμ_1, h⟩ := gw_lt h
  try rw [← hμ_1]
  refine ⟨(⟨by decide, by decide⟩ : gw_in 11 20813), ?_⟩
  refine ⟨(⟨by decide, by decide⟩ : gw_in 12 20813), ?_⟩
  obtain ⟨μ_2, hμ_2, h⟩ := gw_lt h
  try rw [← hμ_2]
  obtain rfl := gw_inj1 h
  exact ⟨hcc, hss, hq⟩
def F_X11_handNow (n0 : Nat) (a0 : Nat) (v1 : Int32) (μ : gw_M) : Option (gw_M) := (F_X11_unfoldAll n0 a0 μ).bind (fun (μ_2 : gw_M) => gw_let (gw_up μ_2 (a0 + 1) 15 v1) (fun (μ_5 : gw_M) => gw_let (gw_up μ_5 (a0 + 1) 16 (-1)) (fun (μ_6 : gw_M) => some μ_6)))
theorem ok_X11_handNow {l : Launch} {x : gw_C} {d : Nat} {S : gw_S} {Q : Option Value → gw_S → gw_M → Prop} {v1 : Int32} {a0 : Nat} {n0 : Nat} {μ : gw_M} {μ'} (hS0 : gw_sh S 11 a0) (h : F_X11_handNow n0 a0 v1 μ = some μ') (hq : Q none S μ') : gw_ok l x (d + 6) sgX11_handNow 0 0 [.ref a0, .int v1] S μ Q := by
  refine gw_ok_of stX11_handNow (lv0 := [.ref a0, .int v1]) (Nat.le_of_ble_eq_true rfl) rfl rfl ?_
  intro K hK
  have hcc : 0 ≤ 0 := Nat.zero_le _
  have hss : 0 ≤ 0 := Nat.zero_le _
  have ka0_0 : gw_kd S a0 = 11 := (hS0 0 _ rfl).1
  have ra0_0_0 : gw_rf S a0 0 = a0 + 1 := (hS0 0 _ rfl).2.2 (0, 1) (by decide)
  have ka0_1 : gw_kd S (a0 + 1) = 12 := (hS0 1 _ rfl).1
  have la0_1 : gw_ln S (a0 + 1) = 20813 := (hS0 1 _ rfl).2.1
  unfold F_X11_handNow at h
  refine hK _ _ _ _ _ _ _ ?_
  rw [fdX11_handNow_0]
  simp only [gt_nil, true_and, eq_self, gt_aload_n, gt_rfk, gw_nth, gt_v0, gt_v1, gt_v2, gt_v3, gt_v4, gt_v5, gt_get_r, gt_get_i, gt_get_z, gt_bipush, gt_iload_n, gt_ink, gt_iastore, gt_iconst, gt_vret, bkX11_handNow_0, ka0_0, ra0_0_0, ka0_1, la0_1, (show Int32.toNatClampNeg 15 = 15 from rfl), (show Int32.toNatClampNeg 16 = 16 from rfl)]
  obtain ⟨μ_2, e_3, h⟩ := gw_bnd h
  refine ⟨rfl, 0, 0, hcc, hss, ok_X11_unfoldAll hS0 e_3 ?_⟩
  simp only [gt_nil, true_and, eq_self, gt_aload_n, gt_rfk, gw_nth, gt_get_r, gt_get_i, gt_get_z, gt_bipush, gt_iload_n, gt_ink, gt_iastore, gt_iconst, gt_vret, Option.toList, List.cons_append, List.nil_append, Nat.add_zero, ka0_0, ra0_0_0, ka0_1, la0_1, (show Int32.toNatClampNeg 15 = 15 from rfl), (show Int32.toNatClampNeg 16 = 16 from rfl)]
  refine ⟨(⟨by decide, by decide⟩ : gw_in 15 20813), ?_⟩
  obtain ⟨μ_5, hμ_5, h⟩ := gw_lt h
  try rw [← hμ_5]
  refine ⟨(⟨by decide, by decide⟩ : gw_in 16 20813), ?_⟩
  obtain ⟨μ_6, hμ_6, h⟩ := gw_lt h
  try rw [← hμ_6]
  obtain rfl := gw_inj1 h
  exact ⟨hcc, hss, hq⟩
def F_X11_clockAt_5 (n0 : Nat) (a0 : Nat) : Nat → Int32 → Int32 → Int32 → gw_M → Option (Int32)
  | 0, _, _, _, _ => none
  | n + 1, v1, v3, v4, μ => (if v1 < v4 then some v3 else (F_X11_guestAt n0 a0 v4 μ).bind (fun (r_2 : Int32) => (if 0 ≤ (r_2 + (3 : Int32)) ∧ (r_2 + (3 : Int32)).toNatClampNeg < 20813 then (F_X11_guestAt n0 a0 v4 μ).bind (fun (r_7 : Int32) => (if 0 ≤ (r_7 + (4 : Int32)) ∧ (r_7 + (4 : Int32)).toNatClampNeg < 20813 then gw_let ((((v3 * (μ (a0 + 1) (r_2 + (3 : Int32)).toNatClampNeg)) >>> ((4 : Int32) &&& 31)) + (μ (a0 + 1) (r_7 + (4 : Int32)).toNatClampNeg))) (fun (w_12 : Int32) => gw_let (v4 + 1) (fun (w_13 : Int32) => F_X11_clockAt_5 n0 a0 n v1 w_12 w_13 μ)) else none)) else none)))
def F_X11_clockAt (n0 : Nat) (a0 : Nat) (v1 : Int32) (v2 : Int32) (μ : gw_M) : Option (Int32) := F_X11_clockAt_5 n0 a0 n0 v1 v2 1 μ
theorem B_X11_clockAt_5 {l : Launch} {x : gw_C} {d : Nat} {S : gw_S} {Q : Option Value → gw_S → gw_M → Prop} {K : Nat → gw_Kt} {mc ms cc ss : Nat} (hcc : cc ≤ mc) (hss : ss ≤ ms) (hK : gw_cl l x (d + 1) mc ms bsX11_clockAt Q K) {a0 : Nat} (hS0 : gw_sh S 11 a0) {n0 : Nat} : ∀ {n : Nat} {v1 v3 v4} {u2 : Value} {μ : gw_M} {r}, F_X11_clockAt_5 n0 a0 n v1 v3 v4 μ = some r → Q (some (.int r)) S μ → K 5 [.ref a0, .int v1, u2, .int v3, .int v4] [] S μ cc ss := by
  have ka0_0 : gw_kd S a0 = 11 := (hS0 0 _ rfl).1
  have ra0_0_0 : gw_rf S a0 0 = a0 + 1 := (hS0 0 _ rfl).2.2 (0, 1) (by decide)
  have ka0_1 : gw_kd S (a0 + 1) = 12 := (hS0 1 _ rfl).1
  have la0_1 : gw_ln S (a0 + 1) = 20813 := (hS0 1 _ rfl).2.1
  intro n
  induction n with
  | zero => intro v1 v3 v4 u2 μ r h hq; simp [F_X11_clockAt_5] at h
  | succ n ih =>
    intro v1 v3 v4 u2 μ r h hq
    simp only [F_X11_clockAt_5] at h
    refine hK _ _ _ _ _ _ _ ?_
    rw [fdX11_clockAt_5]
    simp only [gt_nil, true_and, eq_self, gt_iload, gt_ink, gw_nth, gt_iload_n, gt_icmp, gt_aload_n, gt_rfk, gt_get_r, gt_get_i, gt_get_z, gt_v0, gt_v1, gt_v2, gt_v3, gt_v4, gt_v5, gt_iconst, gt_iadd, gt_iaload, gt_imul, gt_ishr, gt_istore_n, gw_set, gt_iinc, gt_goto, bkX11_clockAt_5, ka0_0, ra0_0_0, ka0_1, la0_1]
    refine ⟨fun c_1 => ?_, fun c_1 => ?_⟩
    · replace h := gw_ifp2 (gw_c2_gt _ _) h c_1
      refine hK _ _ _ _ _ _ _ ?_
      rw [fdX11_clockAt_49]
      simp only [gt_nil, true_and, eq_self, gt_iload_n, gt_ink, gw_nth, gt_iret, gt_retz, bkX11_clockAt_49, ka0_0, ra0_0_0, ka0_1, la0_1]
      obtain rfl := gw_inj1 h
      exact ⟨hcc, hss, hq⟩
    · replace h := gw_ifn2 (gw_c2_gt _ _) h c_1
      obtain ⟨r_2, e_4, h⟩ := gw_bnd h
      refine ⟨rfl, 0, 0, hcc, hss, ok_X11_guestAt hS0 e_4 ?_⟩
      simp only [gt_nil, true_and, eq_self, gt_iconst, gt_iadd, gt_iaload, gt_imul, gt_ishr, gt_aload_n, gt_rfk, gw_nth, gt_get_r, gt_get_i, gt_get_z, gt_iload, gt_ink, gt_v0, gt_v1, gt_v2, gt_v3, gt_v4, gt_v5, gt_istore_n, gw_set, gt_iinc, gt_goto, Option.toList, List.cons_append, List.nil_append, Nat.add_zero, ka0_0, ra0_0_0, ka0_1, la0_1]
      obtain ⟨c_6, h⟩ := gw_ife h
      refine ⟨c_6, ?_⟩
      obtain ⟨r_7, e_9, h⟩ := gw_bnd h
      refine ⟨rfl, 0, 0, hcc, hss, ok_X11_guestAt hS0 e_9 ?_⟩
      simp only [gt_nil, true_and, eq_self, gt_iconst, gt_iadd, gt_iaload, gt_istore_n, gw_set, gt_iinc, gt_ink, gw_nth, gt_goto, Option.toList, List.cons_append, List.nil_append, Nat.add_zero, ka0_0, ra0_0_0, ka0_1, la0_1]
      obtain ⟨c_11, h⟩ := gw_ife h
      refine ⟨c_11, ?_⟩
      obtain ⟨w_12, hw_12, h⟩ := gw_lt h
      try rw [← hw_12]
      obtain ⟨w_13, hw_13, h⟩ := gw_lt h
      try rw [← hw_13]
      exact ih h hq
theorem ok_X11_clockAt {l : Launch} {x : gw_C} {d : Nat} {S : gw_S} {Q : Option Value → gw_S → gw_M → Prop} {v1 v2 : Int32} {a0 : Nat} {n0 : Nat} {μ : gw_M} {r} (hS0 : gw_sh S 11 a0) (h : F_X11_clockAt n0 a0 v1 v2 μ = some r) (hq : Q (some (.int r)) S μ) : gw_ok l x (d + 2) sgX11_clockAt 0 0 [.ref a0, .int v1, .int v2] S μ Q := by
  refine gw_ok_of stX11_clockAt (lv0 := [.ref a0, .int v1, .int v2, .retAddr 0, .retAddr 0]) (Nat.le_of_ble_eq_true rfl) rfl rfl ?_
  intro K hK
  have hcc : 0 ≤ 0 := Nat.zero_le _
  have hss : 0 ≤ 0 := Nat.zero_le _
  unfold F_X11_clockAt at h
  refine hK _ _ _ _ _ _ _ ?_
  rw [fdX11_clockAt_0]
  simp only [gt_nil, true_and, eq_self, gt_iload_n, gt_ink, gw_nth, gt_istore_n, gw_set, gt_iconst, gt_istore, bkX11_clockAt_0]
  exact B_X11_clockAt_5 hcc hss hK hS0 h hq
def F_X11_ofTimer (n0 : Nat) (a0 : Nat) (v1 : Int32) (v2 : Int32) (μ : gw_M) : Option (Int32) := (if 0 ≤ (((957 : Int32) + ((3 : Int32) * v1)) + v2) ∧ (((957 : Int32) + ((3 : Int32) * v1)) + v2).toNatClampNeg < 20813 then some (μ (a0 + 1) (((957 : Int32) + ((3 : Int32) * v1)) + v2).toNatClampNeg) else none)
theorem ok_X11_ofTimer {l : Launch} {x : gw_C} {d : Nat} {S : gw_S} {Q : Option Value → gw_S → gw_M → Prop} {v1 v2 : Int32} {a0 : Nat} {n0 : Nat} {μ : gw_M} {r} (hS0 : gw_sh S 11 a0) (h : F_X11_ofTimer n0 a0 v1 v2 μ = some r) (hq : Q (some (.int r)) S μ) : gw_ok l x (d + 1) sgX11_ofTimer 0 0 [.ref a0, .int v1, .int v2] S μ Q := by
  refine gw_ok_of stX11_ofTimer (lv0 := [.ref a0, .int v1, .int v2]) (Nat.le_of_ble_eq_true rfl) rfl rfl ?_
  intro K hK
  have hcc : 0 ≤ 0 := Nat.zero_le _
  have hss : 0 ≤ 0 := Nat.zero_le _
  have ka0_0 : gw_kd S a0 = 11 := (hS0 0 _ rfl).1
  have ra0_0_0 : gw_rf S a0 0 = a0 + 1 := (hS0 0 _ rfl).2.2 (0, 1) (by decide)
  have ka0_1 : gw_kd S (a0 + 1) = 12 := (hS0 1 _ rfl).1
  have la0_1 : gw_ln S (a0 + 1) = 20813 := (hS0 1 _ rfl).2.1
  unfold F_X11_ofTimer at h
  refine hK _ _ _ _ _ _ _ ?_
  rw [fdX11_ofTimer_0]
  simp only [gt_nil, true_and, eq_self, gt_aload_n, gt_rfk, gw_nth, gt_get_r, gt_get_i, gt_get_z, gt_sipush, gt_iconst, gt_iload_n, gt_ink, gt_imul, gt_iadd, gt_iaload, gt_iret, gt_retz, bkX11_ofTimer_0, ka0_0, ra0_0_0, ka0_1, la0_1]
  obtain ⟨c_1, h⟩ := gw_ife h
  refine ⟨c_1, ?_⟩
  obtain rfl := gw_inj1 h
  exact ⟨hcc, hss, hq⟩
