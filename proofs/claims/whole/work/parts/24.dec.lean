def F_X11_isDue (n0 : Nat) (a0 : Nat) (v1 : Int32) (v2 : Int32) (μ : gw_M) : Option (Int32) := (F_X11_ofTimer n0 a0 v1 0 μ).bind (fun (r_1 : Int32) => (F_X11_clockAt n0 a0 r_1 v2 μ).bind (fun (r_5 : Int32) => (F_X11_ofTimer n0 a0 v1 1 μ).bind (fun (r_9 : Int32) => (if r_5 < r_9 then some 0 else some 1))))
theorem ok_X11_isDue {l : Launch} {x : gw_C} {d : Nat} {S : gw_S} {Q : Option Value → gw_S → gw_M → Prop} {v1 v2 : Int32} {a0 : Nat} {n0 : Nat} {μ : gw_M} {r} (hS0 : gw_sh S 11 a0) (h : F_X11_isDue n0 a0 v1 v2 μ = some r) (hq : ((r = 0 ∨ r = 1) → Q (some (.int r)) S μ)) : gw_ok l x (d + 3) sgX11_isDue 0 0 [.ref a0, .int v1, .int v2] S μ Q := by
  refine gw_ok_of stX11_isDue (lv0 := [.ref a0, .int v1, .int v2]) (Nat.le_of_ble_eq_true rfl) rfl rfl ?_
  intro K hK
  have hcc : 0 ≤ 0 := Nat.zero_le _
  have hss : 0 ≤ 0 := Nat.zero_le _
  have ka0_0 : gw_kd S a0 = 11 := (hS0 0 _ rfl).1
  unfold F_X11_isDue at h
  refine hK _ _ _ _ _ _ _ ?_
  rw [fdX11_isDue_0]
  simp only [gt_nil, true_and, eq_self, gt_aload_n, gt_rfk, gw_nth, gt_iload_n, gt_ink, gt_iconst, gt_v0, gt_v1, gt_v2, gt_v3, gt_v4, gt_v5, gt_icmp, gt_goto, bkX11_isDue_0, ka0_0]
  obtain ⟨r_1, e_3, h⟩ := gw_bnd h
  refine ⟨rfl, 0, 0, hcc, hss, ok_X11_ofTimer hS0 e_3 ?_⟩
  simp only [gt_nil, true_and, eq_self, gt_iload_n, gt_ink, gw_nth, gt_v0, gt_v1, gt_v2, gt_v3, gt_v4, gt_v5, gt_aload_n, gt_rfk, gt_iconst, gt_icmp, gt_goto, Option.toList, List.cons_append, List.nil_append, Nat.add_zero, ka0_0]
  obtain ⟨r_5, e_7, h⟩ := gw_bnd h
  refine ⟨rfl, 0, 0, hcc, hss, ok_X11_clockAt hS0 e_7 ?_⟩
  simp only [gt_nil, true_and, eq_self, gt_aload_n, gt_rfk, gw_nth, gt_iload_n, gt_ink, gt_iconst, gt_v0, gt_v1, gt_v2, gt_v3, gt_v4, gt_v5, gt_icmp, gt_goto, Option.toList, List.cons_append, List.nil_append, Nat.add_zero, ka0_0]
  obtain ⟨r_9, e_11, h⟩ := gw_bnd h
  refine ⟨rfl, 0, 0, hcc, hss, ok_X11_ofTimer hS0 e_11 ?_⟩
  simp only [gt_nil, true_and, eq_self, gt_icmp, gt_iconst, gt_goto, Option.toList, List.cons_append, List.nil_append, Nat.add_zero, ka0_0]
  refine ⟨fun c_13 => ?_, fun c_13 => ?_⟩
  · replace h := gw_ifp2 (gw_c2_lt _ _) h c_13
    refine hK _ _ _ _ _ _ _ ?_
    rw [fdX11_isDue_24]
    simp only [gt_nil, true_and, eq_self, gt_iconst, bkX11_isDue_24, ka0_0]
    refine hK _ _ _ _ _ _ _ ?_
    rw [fdX11_isDue_25]
    simp only [gt_nil, true_and, eq_self, gt_iret, gt_retz, bkX11_isDue_25, ka0_0]
    obtain rfl := gw_inj1 h
    exact ⟨(Or.inl rfl), hcc, hss, hq (Or.inl rfl)⟩
  · replace h := gw_ifn2 (gw_c2_lt _ _) h c_13
    refine hK _ _ _ _ _ _ _ ?_
    rw [fdX11_isDue_25]
    simp only [gt_nil, true_and, eq_self, gt_iret, gt_retz, bkX11_isDue_25, ka0_0]
    obtain rfl := gw_inj1 h
    exact ⟨(Or.inr rfl), hcc, hss, hq (Or.inr rfl)⟩
def F_X11_isAhead_20 (n0 : Nat) (a0 : Nat) (v1 : Int32) (v2 : Int32) (s0 : Int32) (μ : gw_M) : Option (Int32) := (F_X11_ofTimer n0 a0 v1 s0 μ).bind (fun (r_1 : Int32) => (F_X11_ofTimer n0 a0 v2 s0 μ).bind (fun (r_5 : Int32) => (if r_5 ≤ r_1 then some 0 else some 1)))
def F_X11_isAhead (n0 : Nat) (a0 : Nat) (v1 : Int32) (v2 : Int32) (μ : gw_M) : Option (Int32) := (F_X11_ofTimer n0 a0 v1 0 μ).bind (fun (r_1 : Int32) => (F_X11_ofTimer n0 a0 v2 0 μ).bind (fun (r_5 : Int32) => (if r_1 = r_5 then F_X11_isAhead_20 n0 a0 v1 v2 1 μ else F_X11_isAhead_20 n0 a0 v1 v2 0 μ)))
theorem B_X11_isAhead_20 {l : Launch} {x : gw_C} {d : Nat} {S : gw_S} {Q : Option Value → gw_S → gw_M → Prop} {K : Nat → gw_Kt} {mc ms cc ss : Nat} (hcc : cc ≤ mc) (hss : ss ≤ ms) (hK : gw_cl l x (d + 1) mc ms bsX11_isAhead Q K) {a0 : Nat} (hS0 : gw_sh S 11 a0) {n0 : Nat} {v1 v2 s0} {u3 : Value} {μ : gw_M} {r} (h : F_X11_isAhead_20 n0 a0 v1 v2 s0 μ = some r) (hq : ((r = 0 ∨ r = 1) → Q (some (.int r)) S μ)) : K 20 [.ref a0, .int v1, .int v2, u3] [.int s0] S μ cc ss := by
  have ka0_0 : gw_kd S a0 = 11 := (hS0 0 _ rfl).1
  unfold F_X11_isAhead_20 at h
  refine hK _ _ _ _ _ _ _ ?_
  rw [fdX11_isAhead_20]
  simp only [gt_nil, true_and, eq_self, gt_istore_n, gw_set, gt_aload_n, gt_rfk, gw_nth, gt_iload_n, gt_ink, gt_v0, gt_v1, gt_v2, gt_v3, gt_v4, gt_v5, gt_icmp, gt_iconst, gt_goto, bkX11_isAhead_20, ka0_0]
  obtain ⟨r_1, e_3, h⟩ := gw_bnd h
  refine ⟨rfl, 0, 0, hcc, hss, ok_X11_ofTimer hS0 e_3 ?_⟩
  simp only [gt_nil, true_and, eq_self, gt_aload_n, gt_rfk, gw_nth, gt_iload_n, gt_ink, gt_v0, gt_v1, gt_v2, gt_v3, gt_v4, gt_v5, gt_icmp, gt_iconst, gt_goto, Option.toList, List.cons_append, List.nil_append, Nat.add_zero, ka0_0]
  obtain ⟨r_5, e_7, h⟩ := gw_bnd h
  refine ⟨rfl, 0, 0, hcc, hss, ok_X11_ofTimer hS0 e_7 ?_⟩
  simp only [gt_nil, true_and, eq_self, gt_icmp, gt_iconst, gt_goto, Option.toList, List.cons_append, List.nil_append, Nat.add_zero, ka0_0]
  refine ⟨fun c_9 => ?_, fun c_9 => ?_⟩
  · replace h := gw_ifp2 (gw_c2_ge _ _) h c_9
    refine hK _ _ _ _ _ _ _ ?_
    rw [fdX11_isAhead_40]
    simp only [gt_nil, true_and, eq_self, gt_iconst, bkX11_isAhead_40, ka0_0]
    refine hK _ _ _ _ _ _ _ ?_
    rw [fdX11_isAhead_41]
    simp only [gt_nil, true_and, eq_self, gt_iret, gt_retz, bkX11_isAhead_41, ka0_0]
    obtain rfl := gw_inj1 h
    exact ⟨(Or.inl rfl), hcc, hss, hq (Or.inl rfl)⟩
  · replace h := gw_ifn2 (gw_c2_ge _ _) h c_9
    refine hK _ _ _ _ _ _ _ ?_
    rw [fdX11_isAhead_41]
    simp only [gt_nil, true_and, eq_self, gt_iret, gt_retz, bkX11_isAhead_41, ka0_0]
    obtain rfl := gw_inj1 h
    exact ⟨(Or.inr rfl), hcc, hss, hq (Or.inr rfl)⟩
theorem ok_X11_isAhead {l : Launch} {x : gw_C} {d : Nat} {S : gw_S} {Q : Option Value → gw_S → gw_M → Prop} {v1 v2 : Int32} {a0 : Nat} {n0 : Nat} {μ : gw_M} {r} (hS0 : gw_sh S 11 a0) (h : F_X11_isAhead n0 a0 v1 v2 μ = some r) (hq : ((r = 0 ∨ r = 1) → Q (some (.int r)) S μ)) : gw_ok l x (d + 2) sgX11_isAhead 0 0 [.ref a0, .int v1, .int v2] S μ Q := by
  refine gw_ok_of stX11_isAhead (lv0 := [.ref a0, .int v1, .int v2, .retAddr 0]) (Nat.le_of_ble_eq_true rfl) rfl rfl ?_
  intro K hK
  have hcc : 0 ≤ 0 := Nat.zero_le _
  have hss : 0 ≤ 0 := Nat.zero_le _
  have ka0_0 : gw_kd S a0 = 11 := (hS0 0 _ rfl).1
  unfold F_X11_isAhead at h
  refine hK _ _ _ _ _ _ _ ?_
  rw [fdX11_isAhead_0]
  simp only [gt_nil, true_and, eq_self, gt_aload_n, gt_rfk, gw_nth, gt_iload_n, gt_ink, gt_iconst, gt_v0, gt_v1, gt_v2, gt_v3, gt_v4, gt_v5, gt_icmp, gt_goto, bkX11_isAhead_0, ka0_0]
  obtain ⟨r_1, e_3, h⟩ := gw_bnd h
  refine ⟨rfl, 0, 0, hcc, hss, ok_X11_ofTimer hS0 e_3 ?_⟩
  simp only [gt_nil, true_and, eq_self, gt_aload_n, gt_rfk, gw_nth, gt_iload_n, gt_ink, gt_iconst, gt_v0, gt_v1, gt_v2, gt_v3, gt_v4, gt_v5, gt_icmp, gt_goto, Option.toList, List.cons_append, List.nil_append, Nat.add_zero, ka0_0]
  obtain ⟨r_5, e_7, h⟩ := gw_bnd h
  refine ⟨rfl, 0, 0, hcc, hss, ok_X11_ofTimer hS0 e_7 ?_⟩
  simp only [gt_nil, true_and, eq_self, gt_icmp, gt_iconst, gt_goto, Option.toList, List.cons_append, List.nil_append, Nat.add_zero, ka0_0]
  refine ⟨fun c_9 => ?_, fun c_9 => ?_⟩
  · replace h := gw_ifp2 (gw_c2_eq _ _) h c_9
    refine hK _ _ _ _ _ _ _ ?_
    rw [fdX11_isAhead_19]
    simp only [gt_nil, true_and, eq_self, gt_iconst, bkX11_isAhead_19, ka0_0]
    exact B_X11_isAhead_20 hcc hss hK hS0 h hq
  · replace h := gw_ifn2 (gw_c2_eq _ _) h c_9
    exact B_X11_isAhead_20 hcc hss hK hS0 h hq
def F_X11_firstDue_45 (rec4 : Int32 → Int32 → gw_M → Option (Int32)) (n0 : Nat) (a0 : Nat) (v1 : Int32) (v2 : Int32) (μ : gw_M) : Option (Int32) := gw_let (v2 + 1) (fun (w_1 : Int32) => rec4 v1 w_1 μ)
def F_X11_firstDue_43 (rec4 : Int32 → Int32 → gw_M → Option (Int32)) (n0 : Nat) (a0 : Nat) (v2 : Int32) (μ : gw_M) : Option (Int32) := F_X11_firstDue_45 rec4 n0 a0 v2 v2 μ
def F_X11_firstDue_4 (n0 : Nat) (a0 : Nat) : Nat → Int32 → Int32 → gw_M → Option (Int32)
  | 0, _, _, _ => none
  | n + 1, v1, v2, μ => (if (μ (a0 + 1) 26) ≤ v2 then some v1 else (F_X11_isDue n0 a0 v2 (μ (a0 + 1) 3) μ).bind (fun (r_2 : Int32) => (if r_2 = 0 then F_X11_firstDue_45 (F_X11_firstDue_4 n0 a0 n) n0 a0 v1 v2 μ else (if v1 = (-1) then F_X11_firstDue_43 (F_X11_firstDue_4 n0 a0 n) n0 a0 v2 μ else (F_X11_isAhead n0 a0 v2 v1 μ).bind (fun (r_8 : Int32) => (if r_8 = 0 then F_X11_firstDue_45 (F_X11_firstDue_4 n0 a0 n) n0 a0 v1 v2 μ else F_X11_firstDue_43 (F_X11_firstDue_4 n0 a0 n) n0 a0 v2 μ))))))
def F_X11_firstDue (n0 : Nat) (a0 : Nat) (μ : gw_M) : Option (Int32) := F_X11_firstDue_4 n0 a0 n0 (-1) 0 μ
theorem B_X11_firstDue_45 {l : Launch} {x : gw_C} {d : Nat} {S : gw_S} {Q : Option Value → gw_S → gw_M → Prop} {K : Nat → gw_Kt} {mc ms cc ss : Nat} (hcc : cc ≤ mc) (hss : ss ≤ ms) (hK : gw_cl l x (d + 3) mc ms bsX11_firstDue Q K) {a0 : Nat} (hS0 : gw_sh S 11 a0) {rec4 : Int32 → Int32 → gw_M → Option (Int32)} (hrec4 : ∀ {v1 v2} {μ : gw_M} {r}, rec4 v1 v2 μ = some r → Q (some (.int r)) S μ → K 4 [.ref a0, .int v1, .int v2] [] S μ cc ss) {n0 : Nat} {v1 v2} {μ : gw_M} {r} (h : F_X11_firstDue_45 rec4 n0 a0 v1 v2 μ = some r) (hq : Q (some (.int r)) S μ) : K 45 [.ref a0, .int v1, .int v2] [] S μ cc ss := by
  unfold F_X11_firstDue_45 at h
  refine hK _ _ _ _ _ _ _ ?_
  rw [fdX11_firstDue_45]
  simp only [gt_nil, true_and, eq_self, gt_iinc, gt_ink, gw_nth, gw_set, gt_goto, bkX11_firstDue_45]
  obtain ⟨w_1, hw_1, h⟩ := gw_lt h
  try rw [← hw_1]
  exact hrec4 h hq
theorem B_X11_firstDue_43 {l : Launch} {x : gw_C} {d : Nat} {S : gw_S} {Q : Option Value → gw_S → gw_M → Prop} {K : Nat → gw_Kt} {mc ms cc ss : Nat} (hcc : cc ≤ mc) (hss : ss ≤ ms) (hK : gw_cl l x (d + 3) mc ms bsX11_firstDue Q K) {a0 : Nat} (hS0 : gw_sh S 11 a0) {rec4 : Int32 → Int32 → gw_M → Option (Int32)} (hrec4 : ∀ {v1 v2} {μ : gw_M} {r}, rec4 v1 v2 μ = some r → Q (some (.int r)) S μ → K 4 [.ref a0, .int v1, .int v2] [] S μ cc ss) {n0 : Nat} {v2} {u1 : Value} {μ : gw_M} {r} (h : F_X11_firstDue_43 rec4 n0 a0 v2 μ = some r) (hq : Q (some (.int r)) S μ) : K 43 [.ref a0, u1, .int v2] [] S μ cc ss := by
  unfold F_X11_firstDue_43 at h
  refine hK _ _ _ _ _ _ _ ?_
  rw [fdX11_firstDue_43]
  simp only [gt_nil, true_and, eq_self, gt_iload_n, gt_ink, gw_nth, gt_istore_n, gw_set, bkX11_firstDue_43]
  exact B_X11_firstDue_45 hcc hss hK hS0 hrec4 h hq
theorem B_X11_firstDue_4 {l : Launch} {x : gw_C} {d : Nat} {S : gw_S} {Q : Option Value → gw_S → gw_M → Prop} {K : Nat → gw_Kt} {mc ms cc ss : Nat} (hcc : cc ≤ mc) (hss : ss ≤ ms) (hK : gw_cl l x (d + 3) mc ms bsX11_firstDue Q K) {a0 : Nat} (hS0 : gw_sh S 11 a0) {n0 : Nat} : ∀ {n : Nat} {v1 v2} {μ : gw_M} {r}, F_X11_firstDue_4 n0 a0 n v1 v2 μ = some r → Q (some (.int r)) S μ → K 4 [.ref a0, .int v1, .int v2] [] S μ cc ss := by
  have ka0_0 : gw_kd S a0 = 11 := (hS0 0 _ rfl).1
  have ra0_0_0 : gw_rf S a0 0 = a0 + 1 := (hS0 0 _ rfl).2.2 (0, 1) (by decide)
  have ka0_1 : gw_kd S (a0 + 1) = 12 := (hS0 1 _ rfl).1
  have la0_1 : gw_ln S (a0 + 1) = 20813 := (hS0 1 _ rfl).2.1
  intro n
  induction n with
  | zero => intro v1 v2 μ r h hq; simp [F_X11_firstDue_4] at h
  | succ n ih =>
    intro v1 v2 μ r h hq
    simp only [F_X11_firstDue_4] at h
    refine hK _ _ _ _ _ _ _ ?_
    rw [fdX11_firstDue_4]
    simp only [gt_nil, true_and, eq_self, gt_iload_n, gt_ink, gw_nth, gt_aload_n, gt_rfk, gt_get_r, gt_get_i, gt_get_z, gt_bipush, gt_iaload, gt_icmp, gt_iconst, gt_v0, gt_v1, gt_v2, gt_v3, gt_v4, gt_v5, gt_if, bkX11_firstDue_4, ka0_0, ra0_0_0, ka0_1, la0_1, (show Int32.toNatClampNeg 26 = 26 from rfl), (show Int32.toNatClampNeg 3 = 3 from rfl)]
    refine ⟨(⟨by decide, by decide⟩ : gw_in 26 20813), ?_⟩
    refine ⟨fun c_1 => ?_, fun c_1 => ?_⟩
    · replace h := gw_ifp2 (gw_c2_ge _ _) h c_1
      refine hK _ _ _ _ _ _ _ ?_
      rw [fdX11_firstDue_51]
      simp only [gt_nil, true_and, eq_self, gt_iload_n, gt_ink, gw_nth, gt_iret, gt_retz, bkX11_firstDue_51, ka0_0, ra0_0_0, ka0_1, la0_1, (show Int32.toNatClampNeg 26 = 26 from rfl), (show Int32.toNatClampNeg 3 = 3 from rfl)]
      obtain rfl := gw_inj1 h
      exact ⟨hcc, hss, hq⟩
    · replace h := gw_ifn2 (gw_c2_ge _ _) h c_1
      refine ⟨(⟨by decide, by decide⟩ : gw_in 3 20813), ?_⟩
      obtain ⟨r_2, e_4, h⟩ := gw_bnd h
      refine ⟨rfl, 0, 0, hcc, hss, ok_X11_isDue hS0 e_4 ?_⟩
      intro hbr_2
      simp only [gt_nil, true_and, eq_self, gt_if, gt_iload_n, gt_ink, gw_nth, gt_iconst, gt_icmp, gt_aload_n, gt_rfk, gt_v0, gt_v1, gt_v2, gt_v3, gt_v4, gt_v5, Option.toList, List.cons_append, List.nil_append, Nat.add_zero, ka0_0, ra0_0_0, ka0_1, la0_1, (show Int32.toNatClampNeg 26 = 26 from rfl), (show Int32.toNatClampNeg 3 = 3 from rfl)]
      refine ⟨fun c_6 => ?_, fun c_6 => ?_⟩
      · replace h := gw_ifp h c_6
        exact B_X11_firstDue_45 hcc hss hK hS0 ih h hq
      · replace h := gw_ifn h c_6
        refine ⟨fun c_7 => ?_, fun c_7 => ?_⟩
        · replace h := gw_ifp2 (gw_c2_eq _ _) h c_7
          exact B_X11_firstDue_43 hcc hss hK hS0 ih h hq
        · replace h := gw_ifn2 (gw_c2_eq _ _) h c_7
          obtain ⟨r_8, e_10, h⟩ := gw_bnd h
          refine ⟨rfl, 0, 0, hcc, hss, ok_X11_isAhead hS0 e_10 ?_⟩
          intro hbr_8
          simp only [gt_nil, true_and, eq_self, gt_if, Option.toList, List.cons_append, List.nil_append, Nat.add_zero, ka0_0, ra0_0_0, ka0_1, la0_1, (show Int32.toNatClampNeg 26 = 26 from rfl), (show Int32.toNatClampNeg 3 = 3 from rfl)]
          refine ⟨fun c_12 => ?_, fun c_12 => ?_⟩
          · replace h := gw_ifp h c_12
            exact B_X11_firstDue_45 hcc hss hK hS0 ih h hq
          · replace h := gw_ifn h c_12
            exact B_X11_firstDue_43 hcc hss hK hS0 ih h hq
theorem ok_X11_firstDue {l : Launch} {x : gw_C} {d : Nat} {S : gw_S} {Q : Option Value → gw_S → gw_M → Prop} {a0 : Nat} {n0 : Nat} {μ : gw_M} {r} (hS0 : gw_sh S 11 a0) (h : F_X11_firstDue n0 a0 μ = some r) (hq : Q (some (.int r)) S μ) : gw_ok l x (d + 4) sgX11_firstDue 0 0 [.ref a0] S μ Q := by
  refine gw_ok_of stX11_firstDue (lv0 := [.ref a0, .retAddr 0, .retAddr 0]) (Nat.le_of_ble_eq_true rfl) rfl rfl ?_
  intro K hK
  have hcc : 0 ≤ 0 := Nat.zero_le _
  have hss : 0 ≤ 0 := Nat.zero_le _
  unfold F_X11_firstDue at h
  refine hK _ _ _ _ _ _ _ ?_
  rw [fdX11_firstDue_0]
  simp only [gt_nil, true_and, eq_self, gt_iconst, gt_istore_n, gw_set, bkX11_firstDue_0]
  exact B_X11_firstDue_4 hcc hss hK hS0 h hq
def F_X11_dropTimer_60 (n0 : Nat) (a0 : Nat) : Nat → Int32 → gw_M → Option (gw_M)
  | 0, _, _ => none
  | n + 1, v2, μ => (if 3 ≤ v2 then some μ else (if 0 ≤ (((957 : Int32) + ((3 : Int32) * (μ (a0 + 1) 26))) + v2) ∧ (((957 : Int32) + ((3 : Int32) * (μ (a0 + 1) 26))) + v2).toNatClampNeg < 20813 then gw_let (gw_up μ (a0 + 1) (((957 : Int32) + ((3 : Int32) * (μ (a0 + 1) 26))) + v2).toNatClampNeg 0) (fun (μ_3 : gw_M) => gw_let (v2 + 1) (fun (w_4 : Int32) => F_X11_dropTimer_60 n0 a0 n w_4 μ_3)) else none))
def F_X11_dropTimer_8 (n0 : Nat) (a0 : Nat) : Nat → Int32 → gw_M → Option (gw_M)
  | 0, _, _ => none
  | n + 1, v2, μ => (if (((957 : Int32) + ((3 : Int32) * (μ (a0 + 1) 26))) - (3 : Int32)) ≤ v2 then gw_let (gw_up μ (a0 + 1) 26 ((μ (a0 + 1) 26) - (1 : Int32))) (fun (μ_2 : gw_M) => F_X11_dropTimer_60 n0 a0 n0 0 μ_2) else (if 0 ≤ (v2 + (3 : Int32)) ∧ (v2 + (3 : Int32)).toNatClampNeg < 20813 then (if 0 ≤ v2 ∧ v2.toNatClampNeg < 20813 then gw_let (gw_up μ (a0 + 1) v2.toNatClampNeg (μ (a0 + 1) (v2 + (3 : Int32)).toNatClampNeg)) (fun (μ_5 : gw_M) => gw_let (v2 + 1) (fun (w_6 : Int32) => F_X11_dropTimer_8 n0 a0 n w_6 μ_5)) else none) else none))
def F_X11_dropTimer (n0 : Nat) (a0 : Nat) (v1 : Int32) (μ : gw_M) : Option (gw_M) := gw_let (((957 : Int32) + ((3 : Int32) * v1))) (fun (w_1 : Int32) => F_X11_dropTimer_8 n0 a0 n0 w_1 μ)
theorem B_X11_dropTimer_60 {l : Launch} {x : gw_C} {d : Nat} {S : gw_S} {Q : Option Value → gw_S → gw_M → Prop} {K : Nat → gw_Kt} {mc ms cc ss : Nat} (hcc : cc ≤ mc) (hss : ss ≤ ms) (hK : gw_cl l x (d + 0) mc ms bsX11_dropTimer Q K) {a0 : Nat} (hS0 : gw_sh S 11 a0) {n0 : Nat} : ∀ {n : Nat} {v2} {u1 : Value} {μ : gw_M} {μ'}, F_X11_dropTimer_60 n0 a0 n v2 μ = some μ' → Q none S μ' → K 60 [.ref a0, u1, .int v2] [] S μ cc ss := by
  have ka0_0 : gw_kd S a0 = 11 := (hS0 0 _ rfl).1
  have ra0_0_0 : gw_rf S a0 0 = a0 + 1 := (hS0 0 _ rfl).2.2 (0, 1) (by decide)
  have ka0_1 : gw_kd S (a0 + 1) = 12 := (hS0 1 _ rfl).1
  have la0_1 : gw_ln S (a0 + 1) = 20813 := (hS0 1 _ rfl).2.1
  intro n
  induction n with
  | zero => intro v2 u1 μ μ' h hq; simp [F_X11_dropTimer_60] at h
  | succ n ih =>
    intro v2 u1 μ μ' h hq
    simp only [F_X11_dropTimer_60] at h
    refine hK _ _ _ _ _ _ _ ?_
    rw [fdX11_dropTimer_60]
    simp only [gt_nil, true_and, eq_self, gt_iload_n, gt_ink, gw_nth, gt_iconst, gt_icmp, gt_aload_n, gt_rfk, gt_get_r, gt_get_i, gt_get_z, gt_sipush, gt_bipush, gt_iaload, gt_imul, gt_iadd, gt_iastore, gt_iinc, gw_set, gt_goto, bkX11_dropTimer_60, ka0_0, ra0_0_0, ka0_1, la0_1, (show Int32.toNatClampNeg 26 = 26 from rfl)]
    refine ⟨fun c_1 => ?_, fun c_1 => ?_⟩
    · replace h := gw_ifp2 (gw_c2_ge _ _) h c_1
      refine hK _ _ _ _ _ _ _ ?_
      rw [fdX11_dropTimer_92]
      simp only [gt_nil, true_and, eq_self, gt_vret, bkX11_dropTimer_92, ka0_0, ra0_0_0, ka0_1, la0_1, (show Int32.toNatClampNeg 26 = 26 from rfl)]
      obtain rfl := gw_inj1 h
      exact ⟨hcc, hss, hq⟩
    · replace h := gw_ifn2 (gw_c2_ge _ _) h c_1
      refine ⟨(⟨by decide, by decide⟩ : gw_in 26 20813), ?_⟩
      obtain ⟨c_2, h⟩ := gw_ife h
      refine ⟨c_2, ?_⟩
      obtain ⟨μ_3, hμ_3, h⟩ := gw_lt h
      try rw [← hμ_3]
      obtain ⟨w_4, hw_4, h⟩ := gw_lt h
      try rw [← hw_4]
      exact ih h hq
theorem B_X11_dropTimer_8 {l : Launch} {x : gw_C} {d : Nat} {S : gw_S} {Q : Option Value → gw_S → gw_M → Prop} {K : Nat → gw_Kt} {mc ms cc ss : Nat} (hcc : cc ≤ mc) (hss : ss ≤ ms) (hK : gw_cl l x (d + 0) mc ms bsX11_dropTimer Q K) {a0 : Nat} (hS0 : gw_sh S 11 a0) {n0 : Nat} : ∀ {n : Nat} {v2} {u1 : Value} {μ : gw_M} {μ'}, F_X11_dropTimer_8 n0 a0 n v2 μ = some μ' → Q none S μ' → K 8 [.ref a0, u1, .int v2] [] S μ cc ss := by
  have ka0_0 : gw_kd S a0 = 11 := (hS0 0 _ rfl).1
  have ra0_0_0 : gw_rf S a0 0 = a0 + 1 := (hS0 0 _ rfl).2.2 (0, 1) (by decide)
  have ka0_1 : gw_kd S (a0 + 1) = 12 := (hS0 1 _ rfl).1
  have la0_1 : gw_ln S (a0 + 1) = 20813 := (hS0 1 _ rfl).2.1
  intro n
  induction n with
  | zero => intro v2 u1 μ μ' h hq; simp [F_X11_dropTimer_8] at h
  | succ n ih =>
    intro v2 u1 μ μ' h hq
    simp only [F_X11_dropTimer_8] at h
    refine hK _ _ _ _ _ _ _ ?_
    rw [fdX11_dropTimer_8]
    simp only [gt_nil, true_and, eq_self, gt_iload_n, gt_ink, gw_nth, gt_sipush, gt_iconst, gt_aload_n, gt_rfk, gt_get_r, gt_get_i, gt_get_z, gt_bipush, gt_iaload, gt_imul, gt_iadd, gt_isub, gt_icmp, gt_iastore, gt_iinc, gw_set, gt_goto, bkX11_dropTimer_8, ka0_0, ra0_0_0, ka0_1, la0_1, (show Int32.toNatClampNeg 26 = 26 from rfl)]
    refine ⟨(⟨by decide, by decide⟩ : gw_in 26 20813), ?_⟩
    refine ⟨fun c_1 => ?_, fun c_1 => ?_⟩
    · replace h := gw_ifp2 (gw_c2_ge _ _) h c_1
      refine hK _ _ _ _ _ _ _ ?_
      rw [fdX11_dropTimer_47]
      simp only [gt_nil, true_and, eq_self, gt_aload_n, gt_rfk, gw_nth, gt_get_r, gt_get_i, gt_get_z, gt_bipush, gt_dup2, gt_iaload, gt_iconst, gt_isub, gt_iastore, gt_istore_n, gw_set, bkX11_dropTimer_47, ka0_0, ra0_0_0, ka0_1, la0_1, (show Int32.toNatClampNeg 26 = 26 from rfl)]
      refine ⟨(⟨by decide, by decide⟩ : gw_in 26 20813), ?_⟩
      refine ⟨(⟨by decide, by decide⟩ : gw_in 26 20813), ?_⟩
      obtain ⟨μ_2, hμ_2, h⟩ := gw_lt h
      try rw [← hμ_2]
      exact B_X11_dropTimer_60 hcc hss hK hS0 h hq
    · replace h := gw_ifn2 (gw_c2_ge _ _) h c_1
      obtain ⟨c_3, h⟩ := gw_ife h
      refine ⟨c_3, ?_⟩
      obtain ⟨c_4, h⟩ := gw_ife h
      refine ⟨c_4, ?_⟩
      obtain ⟨μ_5, hμ_5, h⟩ := gw_lt h
      try rw [← hμ_5]
      obtain ⟨w_6, hw_6, h⟩ := gw_lt h
      try rw [← hw_6]
      exact ih h hq
theorem ok_X11_dropTimer {l : Launch} {x : gw_C} {d : Nat} {S : gw_S} {Q : Option Value → gw_S → gw_M → Prop} {v1 : Int32} {a0 : Nat} {n0 : Nat} {μ : gw_M} {μ'} (hS0 : gw_sh S 11 a0) (h : F_X11_dropTimer n0 a0 v1 μ = some μ') (hq : Q none S μ') : gw_ok l x (d + 1) sgX11_dropTimer 0 0 [.ref a0, .int v1] S μ Q := by
  refine gw_ok_of stX11_dropTimer (lv0 := [.ref a0, .int v1, .retAddr 0]) (Nat.le_of_ble_eq_true rfl) rfl rfl ?_
  intro K hK
  have hcc : 0 ≤ 0 := Nat.zero_le _
  have hss : 0 ≤ 0 := Nat.zero_le _
  unfold F_X11_dropTimer at h
  refine hK _ _ _ _ _ _ _ ?_
  rw [fdX11_dropTimer_0]
  simp only [gt_nil, true_and, eq_self, gt_sipush, gt_iconst, gt_iload_n, gt_ink, gw_nth, gt_imul, gt_iadd, gt_istore_n, gw_set, bkX11_dropTimer_0]
  obtain ⟨w_1, hw_1, h⟩ := gw_lt h
  try rw [← hw_1]
  exact B_X11_dropTimer_8 hcc hss hK hS0 h hq
def F_X11_tick_99 (rec52 : Int32 → Int32 → gw_M → Option (Int32 × gw_M)) (n0 : Nat) (a0 : Nat) (v1 : Int32) (μ : gw_M) : Option (Int32 × gw_M) := gw_let (v1 + 1) (fun (w_1 : Int32) => (F_X11_firstDue n0 a0 μ).bind (fun (r_2 : Int32) => rec52 w_1 r_2 μ))
def F_X11_tick_52 (n0 : Nat) (a0 : Nat) : Nat → Int32 → Int32 → gw_M → Option (Int32 × gw_M)
  | 0, _, _, _ => none
  | n + 1, v1, v2, μ => (if v2 = (-1) then (if ¬ (μ (a0 + 1) 2) = 2 then some (v1, μ) else (if (μ (a0 + 1) 11) = 0 then some (v1, μ) else gw_let (gw_up μ (a0 + 1) 12 ((μ (a0 + 1) 12) - (1 : Int32))) (fun (μ_4 : gw_M) => (if 0 < (μ_4 (a0 + 1) 12) then some (v1, μ_4) else (F_X11_deal n0 a0 8 (μ_4 (a0 + 1) 11) μ_4).bind (fun (μ_7 : gw_M) => some (v1, μ_7)))))) else (F_X11_ofTimer n0 a0 v2 0 μ).bind (fun (r_10 : Int32) => (F_X11_ofTimer n0 a0 v2 2 μ).bind (fun (r_14 : Int32) => (F_X11_dropTimer n0 a0 v2 μ).bind (fun (μ_19 : gw_M) => (if ¬ r_10 = 0 then (F_X11_pend n0 a0 r_10 r_14 μ_19).bind (fun (μ_24 : gw_M) => F_X11_tick_99 (F_X11_tick_52 n0 a0 n) n0 a0 v1 μ_24) else (F_X11_see n0 a0 7 r_14 μ_19).bind (fun (μ_28 : gw_M) => F_X11_tick_99 (F_X11_tick_52 n0 a0 n) n0 a0 v1 μ_28))))))
def F_X11_tick_39 (n0 : Nat) (a0 : Nat) (s1 : Int32) (s2 : Int32) (μ : gw_M) : Option (Int32 × gw_M) := (if 0 ≤ (s1 + s2) ∧ (s1 + s2).toNatClampNeg < 20813 then (if 0 ≤ (s1 + s2) ∧ (s1 + s2).toNatClampNeg < 20813 then gw_let (gw_up μ (a0 + 1) (s1 + s2).toNatClampNeg ((μ (a0 + 1) (s1 + s2).toNatClampNeg) + (1 : Int32))) (fun (μ_3 : gw_M) => (F_X11_firstDue n0 a0 μ_3).bind (fun (r_4 : Int32) => F_X11_tick_52 n0 a0 n0 0 r_4 μ_3)) else none) else none)
def F_X11_tick (n0 : Nat) (a0 : Nat) (μ : gw_M) : Option (Int32 × gw_M) := gw_let (gw_up μ (a0 + 1) 3 ((μ (a0 + 1) 3) + (1 : Int32))) (fun (μ_1 : gw_M) => (if ¬ (μ_1 (a0 + 1) 2) = 1 then F_X11_tick_39 n0 a0 28 ((1 : Int32) + (μ_1 (a0 + 1) 15)) μ_1 else F_X11_tick_39 n0 a0 28 0 μ_1))
theorem B_X11_tick_99 {l : Launch} {x : gw_C} {d : Nat} {S : gw_S} {Q : Option Value → gw_S → gw_M → Prop} {K : Nat → gw_Kt} {mc ms cc ss : Nat} (hcc : cc ≤ mc) (hss : ss ≤ ms) (hK : gw_cl l x (d + 4) mc ms bsX11_tick Q K) {a0 : Nat} (hS0 : gw_sh S 11 a0) {rec52 : Int32 → Int32 → gw_M → Option (Int32 × gw_M)} (hrec52 : ∀ {v1 v2} {u3 u4 : Value} {μ : gw_M} {r μ'}, rec52 v1 v2 μ = some (r, μ') → Q (some (.int r)) S μ' → K 52 [.ref a0, .int v1, .int v2, u3, u4] [] S μ cc ss) {n0 : Nat} {v1} {u2 u3 u4 : Value} {μ : gw_M} {r μ'} (h : F_X11_tick_99 rec52 n0 a0 v1 μ = some (r, μ')) (hq : Q (some (.int r)) S μ') : K 99 [.ref a0, .int v1, u2, u3, u4] [] S μ cc ss := by
  have ka0_0 : gw_kd S a0 = 11 := (hS0 0 _ rfl).1
  unfold F_X11_tick_99 at h
  refine hK _ _ _ _ _ _ _ ?_
  rw [fdX11_tick_99]
  simp only [gt_nil, true_and, eq_self, gt_iinc, gt_ink, gw_nth, gw_set, gt_aload_n, gt_rfk, gt_v0, gt_v1, gt_v2, gt_v3, gt_v4, gt_v5, gt_istore_n, gt_goto, bkX11_tick_99, ka0_0]
  obtain ⟨w_1, hw_1, h⟩ := gw_lt h
  try rw [← hw_1]
  obtain ⟨r_2, e_4, h⟩ := gw_bnd h
  refine ⟨rfl, 0, 0, hcc, hss, ok_X11_firstDue hS0 e_4 ?_⟩
  simp only [gt_nil, true_and, eq_self, gt_istore_n, gw_set, gt_goto, Option.toList, List.cons_append, List.nil_append, Nat.add_zero, ka0_0]
  exact hrec52 h hq
theorem B_X11_tick_52 {l : Launch} {x : gw_C} {d : Nat} {S : gw_S} {Q : Option Value → gw_S → gw_M → Prop} {K : Nat → gw_Kt} {mc ms cc ss : Nat} (hcc : cc ≤ mc) (hss : ss ≤ ms) (hK : gw_cl l x (d + 4) mc ms bsX11_tick Q K) {a0 : Nat} (hS0 : gw_sh S 11 a0) {n0 : Nat} : ∀ {n : Nat} {v1 v2} {u3 u4 : Value} {μ : gw_M} {r μ'}, F_X11_tick_52 n0 a0 n v1 v2 μ = some (r, μ') → Q (some (.int r)) S μ' → K 52 [.ref a0, .int v1, .int v2, u3, u4] [] S μ cc ss := by
  have ka0_0 : gw_kd S a0 = 11 := (hS0 0 _ rfl).1
  have ra0_0_0 : gw_rf S a0 0 = a0 + 1 := (hS0 0 _ rfl).2.2 (0, 1) (by decide)
  have ka0_1 : gw_kd S (a0 + 1) = 12 := (hS0 1 _ rfl).1
  have la0_1 : gw_ln S (a0 + 1) = 20813 := (hS0 1 _ rfl).2.1
  intro n
  induction n with
  | zero => intro v1 v2 u3 u4 μ r μ' h hq; simp [F_X11_tick_52] at h
  | succ n ih =>
    intro v1 v2 u3 u4 μ r μ' h hq
    simp only [F_X11_tick_52] at h
    refine hK _ _ _ _ _ _ _ ?_
    rw [fdX11_tick_52]
    simp only [gt_nil, true_and, eq_self, gt_iload_n, gt_ink, gw_nth, gt_iconst, gt_icmp, gt_aload_n, gt_rfk, gt_v0, gt_v1, gt_v2, gt_v3, gt_v4, gt_v5, gt_istore_n, gw_set, gt_istore, gt_if, gt_bipush, gt_iload, gt_goto, bkX11_tick_52, ka0_0, ra0_0_0, ka0_1, la0_1, (show Int32.toNatClampNeg 11 = 11 from rfl), (show Int32.toNatClampNeg 12 = 12 from rfl), (show Int32.toNatClampNeg 2 = 2 from rfl)]
    refine ⟨fun c_1 => ?_, fun c_1 => ?_⟩
    · replace h := gw_ifp2 (gw_c2_eq _ _) h c_1
      refine hK _ _ _ _ _ _ _ ?_
      rw [fdX11_tick_110]
      simp only [gt_nil, true_and, eq_self, gt_aload_n, gt_rfk, gw_nth, gt_get_r, gt_get_i, gt_get_z, gt_iconst, gt_iaload, gt_icmp, gt_bipush, gt_if, gt_dup2, gt_isub, gt_iastore, gt_v0, gt_v1, gt_v2, gt_v3, gt_v4, gt_v5, bkX11_tick_110, ka0_0, ra0_0_0, ka0_1, la0_1, (show Int32.toNatClampNeg 11 = 11 from rfl), (show Int32.toNatClampNeg 12 = 12 from rfl), (show Int32.toNatClampNeg 2 = 2 from rfl)]
      refine ⟨(⟨by decide, by decide⟩ : gw_in 2 20813), ?_⟩
      refine ⟨fun c_2 => ?_, fun c_2 => ?_⟩
      · replace h := gw_ifp2 (gw_c2_ne _ _) h c_2
        refine hK _ _ _ _ _ _ _ ?_
        rw [fdX11_tick_164]
        simp only [gt_nil, true_and, eq_self, gt_iload_n, gt_ink, gw_nth, gt_iret, gt_retz, bkX11_tick_164, ka0_0, ra0_0_0, ka0_1, la0_1, (show Int32.toNatClampNeg 11 = 11 from rfl), (show Int32.toNatClampNeg 12 = 12 from rfl), (show Int32.toNatClampNeg 2 = 2 from rfl)]
        obtain ⟨rfl, rfl⟩ := gw_inj2 h
        exact ⟨hcc, hss, hq⟩
      · replace h := gw_ifn2 (gw_c2_ne _ _) h c_2
        refine ⟨(⟨by decide, by decide⟩ : gw_in 11 20813), ?_⟩
        refine ⟨fun c_3 => ?_, fun c_3 => ?_⟩
        · replace h := gw_ifp h c_3
          refine hK _ _ _ _ _ _ _ ?_
          rw [fdX11_tick_164]
          simp only [gt_nil, true_and, eq_self, gt_iload_n, gt_ink, gw_nth, gt_iret, gt_retz, bkX11_tick_164, ka0_0, ra0_0_0, ka0_1, la0_1, (show Int32.toNatClampNeg 11 = 11 from rfl), (show Int32.toNatClampNeg 12 = 12 from rfl), (show Int32.toNatClampNeg 2 = 2 from rfl)]
          obtain ⟨rfl, rfl⟩ := gw_inj2 h
          exact ⟨hcc, hss, hq⟩
        · replace h := gw_ifn h c_3
          refine ⟨(⟨by decide, by decide⟩ : gw_in 12 20813), ?_⟩
          refine ⟨(⟨by decide, by decide⟩ : gw_in 12 20813), ?_⟩
          obtain ⟨μ_4, hμ_4, h⟩ := gw_lt h
          try rw [← hμ_4]
          refine ⟨(⟨by decide, by decide⟩ : gw_in 12 20813), ?_⟩
          refine ⟨fun c_5 => ?_, fun c_5 => ?_⟩
          · replace h := gw_ifp h c_5
            refine hK _ _ _ _ _ _ _ ?_
            rw [fdX11_tick_164]
            simp only [gt_nil, true_and, eq_self, gt_iload_n, gt_ink, gw_nth, gt_iret, gt_retz, bkX11_tick_164, ka0_0, ra0_0_0, ka0_1, la0_1, (show Int32.toNatClampNeg 11 = 11 from rfl), (show Int32.toNatClampNeg 12 = 12 from rfl), (show Int32.toNatClampNeg 2 = 2 from rfl)]
            obtain ⟨rfl, rfl⟩ := gw_inj2 h
            exact ⟨hcc, hss, hq⟩
          · replace h := gw_ifn h c_5
            refine ⟨(⟨by decide, by decide⟩ : gw_in 11 20813), ?_⟩
            obtain ⟨μ_7, e_8, h⟩ := gw_bnd h
            refine ⟨rfl, 0, 0, hcc, hss, ok_X11_deal hS0 e_8 ?_⟩
            simp only [gt_nil, true_and, eq_self, Option.toList, List.cons_append, List.nil_append, Nat.add_zero, ka0_0, ra0_0_0, ka0_1, la0_1, (show Int32.toNatClampNeg 11 = 11 from rfl), (show Int32.toNatClampNeg 12 = 12 from rfl), (show Int32.toNatClampNeg 2 = 2 from rfl)]
            refine hK _ _ _ _ _ _ _ ?_
            rw [fdX11_tick_164]
            simp only [gt_nil, true_and, eq_self, gt_iload_n, gt_ink, gw_nth, gt_iret, gt_retz, bkX11_tick_164, ka0_0, ra0_0_0, ka0_1, la0_1, (show Int32.toNatClampNeg 11 = 11 from rfl), (show Int32.toNatClampNeg 12 = 12 from rfl), (show Int32.toNatClampNeg 2 = 2 from rfl)]
            obtain ⟨rfl, rfl⟩ := gw_inj2 h
            exact ⟨hcc, hss, hq⟩
    · replace h := gw_ifn2 (gw_c2_eq _ _) h c_1
      obtain ⟨r_10, e_12, h⟩ := gw_bnd h
      refine ⟨rfl, 0, 0, hcc, hss, ok_X11_ofTimer hS0 e_12 ?_⟩
      simp only [gt_nil, true_and, eq_self, gt_istore_n, gw_set, gt_aload_n, gt_rfk, gw_nth, gt_iload_n, gt_ink, gt_iconst, gt_v0, gt_v1, gt_v2, gt_v3, gt_v4, gt_v5, gt_istore, gt_if, gt_bipush, gt_iload, gt_goto, Option.toList, List.cons_append, List.nil_append, Nat.add_zero, ka0_0, ra0_0_0, ka0_1, la0_1, (show Int32.toNatClampNeg 11 = 11 from rfl), (show Int32.toNatClampNeg 12 = 12 from rfl), (show Int32.toNatClampNeg 2 = 2 from rfl)]
      obtain ⟨r_14, e_16, h⟩ := gw_bnd h
      refine ⟨rfl, 0, 0, hcc, hss, ok_X11_ofTimer hS0 e_16 ?_⟩
      simp only [gt_nil, true_and, eq_self, gt_istore, gw_set, gt_aload_n, gt_rfk, gw_nth, gt_iload_n, gt_ink, gt_v0, gt_v1, gt_v2, gt_v3, gt_v4, gt_v5, gt_if, gt_bipush, gt_iload, gt_goto, Option.toList, List.cons_append, List.nil_append, Nat.add_zero, ka0_0, ra0_0_0, ka0_1, la0_1, (show Int32.toNatClampNeg 11 = 11 from rfl), (show Int32.toNatClampNeg 12 = 12 from rfl), (show Int32.toNatClampNeg 2 = 2 from rfl)]
      obtain ⟨μ_19, e_20, h⟩ := gw_bnd h
      refine ⟨rfl, 0, 0, hcc, hss, ok_X11_dropTimer hS0 e_20 ?_⟩
      simp only [gt_nil, true_and, eq_self, gt_iload_n, gt_ink, gw_nth, gt_if, gt_aload_n, gt_rfk, gt_bipush, gt_iload, gt_v0, gt_v1, gt_v2, gt_v3, gt_v4, gt_v5, gt_goto, Option.toList, List.cons_append, List.nil_append, Nat.add_zero, ka0_0, ra0_0_0, ka0_1, la0_1, (show Int32.toNatClampNeg 11 = 11 from rfl), (show Int32.toNatClampNeg 12 = 12 from rfl), (show Int32.toNatClampNeg 2 = 2 from rfl)]
      refine ⟨fun c_22 => ?_, fun c_22 => ?_⟩
      · replace h := gw_ifp h c_22
        refine hK _ _ _ _ _ _ _ ?_
        rw [fdX11_tick_92]
        simp only [gt_nil, true_and, eq_self, gt_aload_n, gt_rfk, gw_nth, gt_iload_n, gt_ink, gt_iload, gt_v0, gt_v1, gt_v2, gt_v3, gt_v4, gt_v5, bkX11_tick_92, ka0_0, ra0_0_0, ka0_1, la0_1, (show Int32.toNatClampNeg 11 = 11 from rfl), (show Int32.toNatClampNeg 12 = 12 from rfl), (show Int32.toNatClampNeg 2 = 2 from rfl)]
        obtain ⟨μ_24, e_25, h⟩ := gw_bnd h
        refine ⟨rfl, 0, 0, hcc, hss, ok_X11_pend hS0 e_25 ?_⟩
        simp only [gt_nil, true_and, eq_self, Option.toList, List.cons_append, List.nil_append, Nat.add_zero, ka0_0, ra0_0_0, ka0_1, la0_1, (show Int32.toNatClampNeg 11 = 11 from rfl), (show Int32.toNatClampNeg 12 = 12 from rfl), (show Int32.toNatClampNeg 2 = 2 from rfl)]
        exact B_X11_tick_99 hcc hss hK hS0 ih h hq
      · replace h := gw_ifn h c_22
        obtain ⟨μ_28, e_29, h⟩ := gw_bnd h
        refine ⟨rfl, 0, 0, hcc, hss, ok_X11_see hS0 e_29 ?_⟩
        simp only [gt_nil, true_and, eq_self, gt_goto, Option.toList, List.cons_append, List.nil_append, Nat.add_zero, ka0_0, ra0_0_0, ka0_1, la0_1, (show Int32.toNatClampNeg 11 = 11 from rfl), (show Int32.toNatClampNeg 12 = 12 from rfl), (show Int32.toNatClampNeg 2 = 2 from rfl)]
        exact B_X11_tick_99 hcc hss hK hS0 ih h hq
theorem B_X11_tick_39 {l : Launch} {x : gw_C} {d : Nat} {S : gw_S} {Q : Option Value → gw_S → gw_M → Prop} {K : Nat → gw_Kt} {mc ms cc ss : Nat} (hcc : cc ≤ mc) (hss : ss ≤ ms) (hK : gw_cl l x (d + 4) mc ms bsX11_tick Q K) {a0 : Nat} (hS0 : gw_sh S 11 a0) {n0 : Nat} {s1 s2} {u1 u2 u3 u4 : Value} {μ : gw_M} {r μ'} (h : F_X11_tick_39 n0 a0 s1 s2 μ = some (r, μ')) (hq : Q (some (.int r)) S μ') : K 39 [.ref a0, u1, u2, u3, u4] [.int s2, .int s1, .ref (a0 + 1)] S μ cc ss := by
  have ka0_0 : gw_kd S a0 = 11 := (hS0 0 _ rfl).1
  have ka0_1 : gw_kd S (a0 + 1) = 12 := (hS0 1 _ rfl).1
  have la0_1 : gw_ln S (a0 + 1) = 20813 := (hS0 1 _ rfl).2.1
  unfold F_X11_tick_39 at h
  refine hK _ _ _ _ _ _ _ ?_
  rw [fdX11_tick_39]
  simp only [gt_nil, true_and, eq_self, gt_iadd, gt_dup2, gt_iaload, gt_iconst, gt_iastore, gt_istore_n, gw_set, gt_aload_n, gt_rfk, gw_nth, gt_v0, gt_v1, gt_v2, gt_v3, gt_v4, gt_v5, bkX11_tick_39, ka0_0, ka0_1, la0_1]
  obtain ⟨c_1, h⟩ := gw_ife h
  refine ⟨c_1, ?_⟩
  obtain ⟨c_2, h⟩ := gw_ife h
  refine ⟨c_2, ?_⟩
  obtain ⟨μ_3, hμ_3, h⟩ := gw_lt h
  try rw [← hμ_3]
  obtain ⟨r_4, e_6, h⟩ := gw_bnd h
  refine ⟨rfl, 0, 0, hcc, hss, ok_X11_firstDue hS0 e_6 ?_⟩
  simp only [gt_nil, true_and, eq_self, gt_istore_n, gw_set, Option.toList, List.cons_append, List.nil_append, Nat.add_zero, ka0_0, ka0_1, la0_1]
  exact B_X11_tick_52 hcc hss hK hS0 h hq
theorem ok_X11_tick {l : Launch} {x : gw_C} {d : Nat} {S : gw_S} {Q : Option Value → gw_S → gw_M → Prop} {a0 : Nat} {n0 : Nat} {μ : gw_M} {r μ'} (hS0 : gw_sh S 11 a0) (h : F_X11_tick n0 a0 μ = some (r, μ')) (hq : Q (some (.int r)) S μ') : gw_ok l x (d + 5) sgX11_tick 0 0 [.ref a0] S μ Q := by
  refine gw_ok_of stX11_tick (lv0 := [.ref a0, .retAddr 0, .retAddr 0, .retAddr 0, .retAddr 0]) (Nat.le_of_ble_eq_true rfl) rfl rfl ?_
  intro K hK
  have hcc : 0 ≤ 0 := Nat.zero_le _
  have hss : 0 ≤ 0 := Nat.zero_le _
  have ka0_0 : gw_kd S a0 = 11 := (hS0 0 _ rfl).1
  have ra0_0_0 : gw_rf S a0 0 = a0 + 1 := (hS0 0 _ rfl).2.2 (0, 1) (by decide)
  have ka0_1 : gw_kd S (a0 + 1) = 12 := (hS0 1 _ rfl).1
  have la0_1 : gw_ln S (a0 + 1) = 20813 := (hS0 1 _ rfl).2.1
  unfold F_X11_tick at h
  refine hK _ _ _ _ _ _ _ ?_
  rw [fdX11_tick_0]
  simp only [gt_nil, true_and, eq_self, gt_aload_n, gt_rfk, gw_nth, gt_get_r, gt_get_i, gt_get_z, gt_iconst, gt_dup2, gt_iaload, gt_iadd, gt_iastore, gt_bipush, gt_icmp, gt_goto, bkX11_tick_0, ka0_0, ra0_0_0, ka0_1, la0_1, (show Int32.toNatClampNeg 15 = 15 from rfl), (show Int32.toNatClampNeg 2 = 2 from rfl), (show Int32.toNatClampNeg 3 = 3 from rfl)]
  refine ⟨(⟨by decide, by decide⟩ : gw_in 3 20813), ?_⟩
  refine ⟨(⟨by decide, by decide⟩ : gw_in 3 20813), ?_⟩
  obtain ⟨μ_1, hμ_1, h⟩ := gw_lt h
  try rw [← hμ_1]
  refine ⟨(⟨by decide, by decide⟩ : gw_in 2 20813), ?_⟩
  refine ⟨fun c_2 => ?_, fun c_2 => ?_⟩
  · replace h := gw_ifp2 (gw_c2_ne _ _) h c_2
    refine hK _ _ _ _ _ _ _ ?_
    rw [fdX11_tick_30]
    simp only [gt_nil, true_and, eq_self, gt_iconst, gt_aload_n, gt_rfk, gw_nth, gt_get_r, gt_get_i, gt_get_z, gt_bipush, gt_iaload, gt_iadd, bkX11_tick_30, ka0_0, ra0_0_0, ka0_1, la0_1, (show Int32.toNatClampNeg 15 = 15 from rfl), (show Int32.toNatClampNeg 2 = 2 from rfl), (show Int32.toNatClampNeg 3 = 3 from rfl)]
    refine ⟨(⟨by decide, by decide⟩ : gw_in 15 20813), ?_⟩
    exact B_X11_tick_39 hcc hss hK hS0 h hq
  · replace h := gw_ifn2 (gw_c2_ne _ _) h c_2
    exact B_X11_tick_39 hcc hss hK hS0 h hq
def F_X11_putAside_2 (n0 : Nat) (a0 : Nat) : Nat → Int32 → gw_M → Option (gw_M)
  | 0, _, _ => none
  | n + 1, v1, μ => (if 991 ≤ v1 then some μ else (if 0 ≤ ((2 : Int32) + v1) ∧ ((2 : Int32) + v1).toNatClampNeg < 20813 then (if 0 ≤ v1 ∧ v1.toNatClampNeg < 991 then gw_let (gw_up μ (a0 + 3) v1.toNatClampNeg (μ (a0 + 1) ((2 : Int32) + v1).toNatClampNeg)) (fun (μ_4 : gw_M) => gw_let (v1 + 1) (fun (w_5 : Int32) => F_X11_putAside_2 n0 a0 n w_5 μ_4)) else none) else none))
def F_X11_putAside (n0 : Nat) (a0 : Nat) (μ : gw_M) : Option (gw_M) := F_X11_putAside_2 n0 a0 n0 0 μ
theorem B_X11_putAside_2 {l : Launch} {x : gw_C} {d : Nat} {S : gw_S} {Q : Option Value → gw_S → gw_M → Prop} {K : Nat → gw_Kt} {mc ms cc ss : Nat} (hcc : cc ≤ mc) (hss : ss ≤ ms) (hK : gw_cl l x (d + 0) mc ms bsX11_putAside Q K) {a0 : Nat} (hS0 : gw_sh S 11 a0) {n0 : Nat} : ∀ {n : Nat} {v1} {μ : gw_M} {μ'}, F_X11_putAside_2 n0 a0 n v1 μ = some μ' → Q none S μ' → K 2 [.ref a0, .int v1] [] S μ cc ss := by
  have ka0_0 : gw_kd S a0 = 11 := (hS0 0 _ rfl).1
  have ra0_0_0 : gw_rf S a0 0 = a0 + 1 := (hS0 0 _ rfl).2.2 (0, 1) (by decide)
  have ra0_0_2 : gw_rf S a0 2 = a0 + 3 := (hS0 0 _ rfl).2.2 (2, 3) (by decide)
  have ka0_1 : gw_kd S (a0 + 1) = 12 := (hS0 1 _ rfl).1
  have la0_1 : gw_ln S (a0 + 1) = 20813 := (hS0 1 _ rfl).2.1
  have ka0_3 : gw_kd S (a0 + 3) = 12 := (hS0 3 _ rfl).1
  have la0_3 : gw_ln S (a0 + 3) = 991 := (hS0 3 _ rfl).2.1
  intro n
  induction n with
  | zero => intro v1 μ μ' h hq; simp [F_X11_putAside_2] at h
  | succ n ih =>
    intro v1 μ μ' h hq
    simp only [F_X11_putAside_2] at h
    refine hK _ _ _ _ _ _ _ ?_
    rw [fdX11_putAside_2]
    simp only [gt_nil, true_and, eq_self, gt_iload_n, gt_ink, gw_nth, gt_sipush, gt_icmp, gt_aload_n, gt_rfk, gt_get_r, gt_get_i, gt_get_z, gt_iconst, gt_iadd, gt_iaload, gt_iastore, gt_iinc, gw_set, gt_goto, bkX11_putAside_2, ka0_0, ra0_0_0, ra0_0_2, ka0_1, la0_1, ka0_3, la0_3]
    refine ⟨fun c_1 => ?_, fun c_1 => ?_⟩
    · replace h := gw_ifp2 (gw_c2_ge _ _) h c_1
      refine hK _ _ _ _ _ _ _ ?_
      rw [fdX11_putAside_29]
      simp only [gt_nil, true_and, eq_self, gt_vret, bkX11_putAside_29, ka0_0, ra0_0_0, ra0_0_2, ka0_1, la0_1, ka0_3, la0_3]
      obtain rfl := gw_inj1 h
      exact ⟨hcc, hss, hq⟩
    · replace h := gw_ifn2 (gw_c2_ge _ _) h c_1
      obtain ⟨c_2, h⟩ := gw_ife h
      refine ⟨c_2, ?_⟩
      obtain ⟨c_3, h⟩ := gw_ife h
      refine ⟨c_3, ?_⟩
      obtain ⟨μ_4, hμ_4, h⟩ := gw_lt h
      try rw [← hμ_4]
      obtain ⟨w_5, hw_5, h⟩ := gw_lt h
      try rw [← hw_5]
      exact ih h hq
theorem ok_X11_putAside {l : Launch} {x : gw_C} {d : Nat} {S : gw_S} {Q : Option Value → gw_S → gw_M → Prop} {a0 : Nat} {n0 : Nat} {μ : gw_M} {μ'} (hS0 : gw_sh S 11 a0) (h : F_X11_putAside n0 a0 μ = some μ') (hq : Q none S μ') : gw_ok l x (d + 1) sgX11_putAside 0 0 [.ref a0] S μ Q := by
  refine gw_ok_of stX11_putAside (lv0 := [.ref a0, .retAddr 0]) (Nat.le_of_ble_eq_true rfl) rfl rfl ?_
  intro K hK
  have hcc : 0 ≤ 0 := Nat.zero_le _
  have hss : 0 ≤ 0 := Nat.zero_le _
  unfold F_X11_putAside at h
  refine hK _ _ _ _ _ _ _ ?_
  rw [fdX11_putAside_0]
  simp only [gt_nil, true_and, eq_self, gt_iconst, gt_istore_n, gw_set, bkX11_putAside_0]
  exact B_X11_putAside_2 hcc hss hK hS0 h hq
def F_X11_bringBack_2 (n0 : Nat) (a0 : Nat) : Nat → Int32 → gw_M → Option (gw_M)
  | 0, _, _ => none
  | n + 1, v1, μ => (if 991 ≤ v1 then some μ else (if 0 ≤ v1 ∧ v1.toNatClampNeg < 991 then (if 0 ≤ ((2 : Int32) + v1) ∧ ((2 : Int32) + v1).toNatClampNeg < 20813 then gw_let (gw_up μ (a0 + 1) ((2 : Int32) + v1).toNatClampNeg (μ (a0 + 3) v1.toNatClampNeg)) (fun (μ_4 : gw_M) => gw_let (v1 + 1) (fun (w_5 : Int32) => F_X11_bringBack_2 n0 a0 n w_5 μ_4)) else none) else none))
def F_X11_bringBack (n0 : Nat) (a0 : Nat) (μ : gw_M) : Option (gw_M) := F_X11_bringBack_2 n0 a0 n0 0 μ
theorem B_X11_bringBack_2 {l : Launch} {x : gw_C} {d : Nat} {S : gw_S} {Q : Option Value → gw_S → gw_M → Prop} {K : Nat → gw_Kt} {mc ms cc ss : Nat} (hcc : cc ≤ mc) (hss : ss ≤ ms) (hK : gw_cl l x (d + 0) mc ms bsX11_bringBack Q K) {a0 : Nat} (hS0 : gw_sh S 11 a0) {n0 : Nat} : ∀ {n : Nat} {v1} {μ : gw_M} {μ'}, F_X11_bringBack_2 n0 a0 n v1 μ = some μ' → Q none S μ' → K 2 [.ref a0, .int v1] [] S μ cc ss := by
  have ka0_0 : gw_kd S a0 = 11 := (hS0 0 _ rfl).1
  have ra0_0_0 : gw_rf S a0 0 = a0 + 1 := (hS0 0 _ rfl).2.2 (0, 1) (by decide)
  have ra0_0_2 : gw_rf S a0 2 = a0 + 3 := (hS0 0 _ rfl).2.2 (2, 3) (by decide)
  have ka0_1 : gw_kd S (a0 + 1) = 12 := (hS0 1 _ rfl).1
  have la0_1 : gw_ln S (a0 + 1) = 20813 := (hS0 1 _ rfl).2.1
  have ka0_3 : gw_kd S (a0 + 3) = 12 := (hS0 3 _ rfl).1
  have la0_3 : gw_ln S (a0 + 3) = 991 := (hS0 3 _ rfl).2.1
  intro n
  induction n with
  | zero => intro v1 μ μ' h hq; simp [F_X11_bringBack_2] at h
  | succ n ih =>
    intro v1 μ μ' h hq
    simp only [F_X11_bringBack_2] at h
    refine hK _ _ _ _ _ _ _ ?_
    rw [fdX11_bringBack_2]
    simp only [gt_nil, true_and, eq_self, gt_iload_n, gt_ink, gw_nth, gt_sipush, gt_icmp, gt_aload_n, gt_rfk, gt_get_r, gt_get_i, gt_get_z, gt_iconst, gt_iadd, gt_iaload, gt_iastore, gt_iinc, gw_set, gt_goto, bkX11_bringBack_2, ka0_0, ra0_0_0, ra0_0_2, ka0_1, la0_1, ka0_3, la0_3]
    refine ⟨fun c_1 => ?_, fun c_1 => ?_⟩
    · replace h := gw_ifp2 (gw_c2_ge _ _) h c_1
      refine hK _ _ _ _ _ _ _ ?_
      rw [fdX11_bringBack_29]
      simp only [gt_nil, true_and, eq_self, gt_vret, bkX11_bringBack_29, ka0_0, ra0_0_0, ra0_0_2, ka0_1, la0_1, ka0_3, la0_3]
      obtain rfl := gw_inj1 h
      exact ⟨hcc, hss, hq⟩
    · replace h := gw_ifn2 (gw_c2_ge _ _) h c_1
      obtain ⟨c_2, h⟩ := gw_ife h
      refine ⟨c_2, ?_⟩
      obtain ⟨c_3, h⟩ := gw_ife h
      refine ⟨c_3, ?_⟩
      obtain ⟨μ_4, hμ_4, h⟩ := gw_lt h
      try rw [← hμ_4]
      obtain ⟨w_5, hw_5, h⟩ := gw_lt h
      try rw [← hw_5]
      exact ih h hq
theorem ok_X11_bringBack {l : Launch} {x : gw_C} {d : Nat} {S : gw_S} {Q : Option Value → gw_S → gw_M → Prop} {a0 : Nat} {n0 : Nat} {μ : gw_M} {μ'} (hS0 : gw_sh S 11 a0) (h : F_X11_bringBack n0 a0 μ = some μ') (hq : Q none S μ') : gw_ok l x (d + 1) sgX11_bringBack 0 0 [.ref a0] S μ Q := by
  refine gw_ok_of stX11_bringBack (lv0 := [.ref a0, .retAddr 0]) (Nat.le_of_ble_eq_true rfl) rfl rfl ?_
  intro K hK
  have hcc : 0 ≤ 0 := Nat.zero_le _
  have hss : 0 ≤ 0 := Nat.zero_le _
  unfold F_X11_bringBack at h
  refine hK _ _ _ _ _ _ _ ?_
  rw [fdX11_bringBack_0]
  simp only [gt_nil, true_and, eq_self, gt_iconst, gt_istore_n, gw_set, bkX11_bringBack_0]
  exact B_X11_bringBack_2 hcc hss hK hS0 h hq
def F_X11_stepAt (n0 : Nat) (v0 : Int32) (v1 : Int32) (μ : gw_M) : Option (Int32) := some ((993 : Int32) + ((991 : Int32) * ((v0 + v1) - (v0 + v1) / (20 : Int32) * (20 : Int32))))
theorem ok_X11_stepAt {l : Launch} {x : gw_C} {d : Nat} {S : gw_S} {Q : Option Value → gw_S → gw_M → Prop} {v0 v1 : Int32} {n0 : Nat} {μ : gw_M} {r} (h : F_X11_stepAt n0 v0 v1 μ = some r) (hq : Q (some (.int r)) S μ) : gw_ok l x (d + 1) sgX11_stepAt 0 0 [.int v0, .int v1] S μ Q := by
  refine gw_ok_of stX11_stepAt (lv0 := [.int v0, .int v1]) (Nat.le_of_ble_eq_true rfl) rfl rfl ?_
  intro K hK
  have hcc : 0 ≤ 0 := Nat.zero_le _
  have hss : 0 ≤ 0 := Nat.zero_le _
  unfold F_X11_stepAt at h
  refine hK _ _ _ _ _ _ _ ?_
  rw [fdX11_stepAt_0]
  simp only [gt_nil, true_and, eq_self, gt_sipush, gt_iload_n, gt_ink, gw_nth, gt_iadd, gt_bipush, gt_irem, gt_imul, gt_iret, gt_retz, bkX11_stepAt_0]
  refine ⟨by decide, ?_⟩
  obtain rfl := gw_inj1 h
  exact ⟨hcc, hss, hq⟩
def F_X11_keep_56 (n0 : Nat) (a0 : Nat) : Nat → Int32 → Int32 → gw_M → Option (gw_M)
  | 0, _, _, _ => none
  | n + 1, v1, v2, μ => (if 991 ≤ v2 then gw_let (gw_up μ (a0 + 1) 0 ((μ (a0 + 1) 0) + (1 : Int32))) (fun (μ_2 : gw_M) => some μ_2) else (if 0 ≤ ((2 : Int32) + v2) ∧ ((2 : Int32) + v2).toNatClampNeg < 20813 then (if 0 ≤ (v1 + v2) ∧ (v1 + v2).toNatClampNeg < 20813 then gw_let (gw_up μ (a0 + 1) (v1 + v2).toNatClampNeg (μ (a0 + 1) ((2 : Int32) + v2).toNatClampNeg)) (fun (μ_5 : gw_M) => gw_let (v2 + 1) (fun (w_6 : Int32) => F_X11_keep_56 n0 a0 n v1 w_6 μ_5)) else none) else none))
def F_X11_keep_38 (n0 : Nat) (a0 : Nat) (μ : gw_M) : Option (gw_M) := (F_X11_stepAt n0 (μ (a0 + 1) 1) (μ (a0 + 1) 0) μ).bind (fun (r_1 : Int32) => F_X11_keep_56 n0 a0 n0 r_1 0 μ)
def F_X11_keep (n0 : Nat) (a0 : Nat) (μ : gw_M) : Option (gw_M) := (if ¬ (μ (a0 + 1) 0) = 20 then F_X11_keep_38 n0 a0 μ else gw_let (gw_up μ (a0 + 1) 1 (((μ (a0 + 1) 1) + (1 : Int32)) - ((μ (a0 + 1) 1) + (1 : Int32)) / (20 : Int32) * (20 : Int32))) (fun (μ_2 : gw_M) => gw_let (gw_up μ_2 (a0 + 1) 0 ((μ_2 (a0 + 1) 0) - (1 : Int32))) (fun (μ_3 : gw_M) => F_X11_keep_38 n0 a0 μ_3)))
theorem B_X11_keep_56 {l : Launch} {x : gw_C} {d : Nat} {S : gw_S} {Q : Option Value → gw_S → gw_M → Prop} {K : Nat → gw_Kt} {mc ms cc ss : Nat} (hcc : cc ≤ mc) (hss : ss ≤ ms) (hK : gw_cl l x (d + 1) mc ms bsX11_keep Q K) {a0 : Nat} (hS0 : gw_sh S 11 a0) {n0 : Nat} : ∀ {n : Nat} {v1 v2} {μ : gw_M} {μ'}, F_X11_keep_56 n0 a0 n v1 v2 μ = some μ' → Q none S μ' → K 56 [.ref a0, .int v1, .int v2] [] S μ cc ss := by
  have ka0_0 : gw_kd S a0 = 11 := (hS0 0 _ rfl).1
  have ra0_0_0 : gw_rf S a0 0 = a0 + 1 := (hS0 0 _ rfl).2.2 (0, 1) (by decide)
  have ka0_1 : gw_kd S (a0 + 1) = 12 := (hS0 1 _ rfl).1
  have la0_1 : gw_ln S (a0 + 1) = 20813 := (hS0 1 _ rfl).2.1
  intro n
  induction n with
  | zero => intro v1 v2 μ μ' h hq; simp [F_X11_keep_56] at h
  | succ n ih =>
    intro v1 v2 μ μ' h hq
    simp only [F_X11_keep_56] at h
    refine hK _ _ _ _ _ _ _ ?_
    rw [fdX11_keep_56]
    simp only [gt_nil, true_and, eq_self, gt_iload_n, gt_ink, gw_nth, gt_sipush, gt_icmp, gt_aload_n, gt_rfk, gt_get_r, gt_get_i, gt_get_z, gt_iadd, gt_iconst, gt_iaload, gt_iastore, gt_iinc, gw_set, gt_goto, bkX11_keep_56, ka0_0, ra0_0_0, ka0_1, la0_1, (show Int32.toNatClampNeg 0 = 0 from rfl)]
    refine ⟨fun c_1 => ?_, fun c_1 => ?_⟩
    · replace h := gw_ifp2 (gw_c2_ge _ _) h c_1
      refine hK _ _ _ _ _ _ _ ?_
      rw [fdX11_keep_85]
      simp only [gt_nil, true_and, eq_self, gt_aload_n, gt_rfk, gw_nth, gt_get_r, gt_get_i, gt_get_z, gt_iconst, gt_dup2, gt_iaload, gt_iadd, gt_iastore, gt_vret, bkX11_keep_85, ka0_0, ra0_0_0, ka0_1, la0_1, (show Int32.toNatClampNeg 0 = 0 from rfl)]
      refine ⟨(⟨by decide, by decide⟩ : gw_in 0 20813), ?_⟩
      refine ⟨(⟨by decide, by decide⟩ : gw_in 0 20813), ?_⟩
      obtain ⟨μ_2, hμ_2, h⟩ := gw_lt h
      try rw [← hμ_2]
      obtain rfl := gw_inj1 h
      exact ⟨hcc, hss, hq⟩
    · replace h := gw_ifn2 (gw_c2_ge _ _) h c_1
      obtain ⟨c_3, h⟩ := gw_ife h
      refine ⟨c_3, ?_⟩
      obtain ⟨c_4, h⟩ := gw_ife h
      refine ⟨c_4, ?_⟩
      obtain ⟨μ_5, hμ_5, h⟩ := gw_lt h
      try rw [← hμ_5]
      obtain ⟨w_6, hw_6, h⟩ := gw_lt h
      try rw [← hw_6]
      exact ih h hq
theorem B_X11_keep_38 {l : Launch} {x : gw_C} {d : Nat} {S : gw_S} {Q : Option Value → gw_S → gw_M → Prop} {K : Nat → gw_Kt} {mc ms cc ss : Nat} (hcc : cc ≤ mc) (hss : ss ≤ ms) (hK : gw_cl l x (d + 1) mc ms bsX11_keep Q K) {a0 : Nat} (hS0 : gw_sh S 11 a0) {n0 : Nat}  {u1 u2 : Value} {μ : gw_M} {μ'} (h : F_X11_keep_38 n0 a0 μ = some μ') (hq : Q none S μ') : K 38 [.ref a0, u1, u2] [] S μ cc ss := by
  have ka0_0 : gw_kd S a0 = 11 := (hS0 0 _ rfl).1
  have ra0_0_0 : gw_rf S a0 0 = a0 + 1 := (hS0 0 _ rfl).2.2 (0, 1) (by decide)
  have ka0_1 : gw_kd S (a0 + 1) = 12 := (hS0 1 _ rfl).1
  have la0_1 : gw_ln S (a0 + 1) = 20813 := (hS0 1 _ rfl).2.1
  unfold F_X11_keep_38 at h
  refine hK _ _ _ _ _ _ _ ?_
  rw [fdX11_keep_38]
  simp only [gt_nil, true_and, eq_self, gt_aload_n, gt_rfk, gw_nth, gt_get_r, gt_get_i, gt_get_z, gt_iconst, gt_iaload, gt_s1_0, gt_s2_0, gt_s3_0, gt_s4_0, gt_s1_1, gt_s2_1, gt_s3_1, gt_s4_1, gt_acpy, gt_istore_n, gw_set, bkX11_keep_38, ka0_0, ra0_0_0, ka0_1, la0_1, (show Int32.toNatClampNeg 0 = 0 from rfl), (show Int32.toNatClampNeg 1 = 1 from rfl)]
  refine ⟨(⟨by decide, by decide⟩ : gw_in 1 20813), ?_⟩
  refine ⟨(⟨by decide, by decide⟩ : gw_in 0 20813), ?_⟩
  obtain ⟨r_1, e_3, h⟩ := gw_bnd h
  refine ⟨rfl, 0, 0, hcc, hss, ok_X11_stepAt e_3 ?_⟩
  simp only [gt_nil, true_and, eq_self, gt_istore_n, gw_set, gt_iconst, Option.toList, List.cons_append, List.nil_append, Nat.add_zero, ka0_0, ra0_0_0, ka0_1, la0_1, (show Int32.toNatClampNeg 0 = 0 from rfl), (show Int32.toNatClampNeg 1 = 1 from rfl)]
  exact B_X11_keep_56 hcc hss hK hS0 h hq
theorem ok_X11_keep {l : Launch} {x : gw_C} {d : Nat} {S : gw_S} {Q : Option Value → gw_S → gw_M → Prop} {a0 : Nat} {n0 : Nat} {μ : gw_M} {μ'} (hS0 : gw_sh S 11 a0) (h : F_X11_keep n0 a0 μ = some μ') (hq : Q none S μ') : gw_ok l x (d + 2) sgX11_keep 0 0 [.ref a0] S μ Q := by
  refine gw_ok_of stX11_keep (lv0 := [.ref a0, .retAddr 0, .retAddr 0]) (Nat.le_of_ble_eq_true rfl) rfl rfl ?_
  intro K hK
  have hcc : 0 ≤ 0 := Nat.zero_le _
  have hss : 0 ≤ 0 := Nat.zero_le _
  have ka0_0 : gw_kd S a0 = 11 := (hS0 0 _ rfl).1
  have ra0_0_0 : gw_rf S a0 0 = a0 + 1 := (hS0 0 _ rfl).2.2 (0, 1) (by decide)
  have ka0_1 : gw_kd S (a0 + 1) = 12 := (hS0 1 _ rfl).1
  have la0_1 : gw_ln S (a0 + 1) = 20813 := (hS0 1 _ rfl).2.1
  unfold F_X11_keep at h
  refine hK _ _ _ _ _ _ _ ?_
  rw [fdX11_keep_0]
  simp only [gt_nil, true_and, eq_self, gt_aload_n, gt_rfk, gw_nth, gt_get_r, gt_get_i, gt_get_z, gt_iconst, gt_iaload, gt_bipush, gt_icmp, gt_iadd, gt_irem, gt_iastore, gt_dup2, gt_isub, bkX11_keep_0, ka0_0, ra0_0_0, ka0_1, la0_1, (show Int32.toNatClampNeg 0 = 0 from rfl), (show Int32.toNatClampNeg 1 = 1 from rfl)]
  refine ⟨(⟨by decide, by decide⟩ : gw_in 0 20813), ?_⟩
  refine ⟨fun c_1 => ?_, fun c_1 => ?_⟩
  · replace h := gw_ifp2 (gw_c2_ne _ _) h c_1
    exact B_X11_keep_38 hcc hss hK hS0 h hq
  · replace h := gw_ifn2 (gw_c2_ne _ _) h c_1
    refine ⟨(⟨by decide, by decide⟩ : gw_in 1 20813), ?_⟩
    refine ⟨by decide, ?_⟩
    refine ⟨(⟨by decide, by decide⟩ : gw_in 1 20813), ?_⟩
    obtain ⟨μ_2, hμ_2, h⟩ := gw_lt h
    try rw [← hμ_2]
    refine ⟨(⟨by decide, by decide⟩ : gw_in 0 20813), ?_⟩
    refine ⟨(⟨by decide, by decide⟩ : gw_in 0 20813), ?_⟩
    obtain ⟨μ_3, hμ_3, h⟩ := gw_lt h
    try rw [← hμ_3]
    exact B_X11_keep_38 hcc hss hK hS0 h hq
def F_X11_undo_39 (n0 : Nat) (a0 : Nat) : Nat → Int32 → Int32 → gw_M → Option (Int32 × gw_M)
  | 0, _, _, _ => none
  | n + 1, v1, v2, μ => (if 991 ≤ v2 then some ((μ (a0 + 1) 0), μ) else (if 0 ≤ (v1 + v2) ∧ (v1 + v2).toNatClampNeg < 20813 then (if 0 ≤ ((2 : Int32) + v2) ∧ ((2 : Int32) + v2).toNatClampNeg < 20813 then gw_let (gw_up μ (a0 + 1) ((2 : Int32) + v2).toNatClampNeg (μ (a0 + 1) (v1 + v2).toNatClampNeg)) (fun (μ_4 : gw_M) => gw_let (v2 + 1) (fun (w_5 : Int32) => F_X11_undo_39 n0 a0 n v1 w_5 μ_4)) else none) else none))
def F_X11_undo (n0 : Nat) (a0 : Nat) (μ : gw_M) : Option (Int32 × gw_M) := (if ¬ (μ (a0 + 1) 0) = 0 then gw_let (gw_up μ (a0 + 1) 0 ((μ (a0 + 1) 0) - (1 : Int32))) (fun (μ_2 : gw_M) => (F_X11_stepAt n0 (μ_2 (a0 + 1) 1) (μ_2 (a0 + 1) 0) μ_2).bind (fun (r_3 : Int32) => F_X11_undo_39 n0 a0 n0 r_3 0 μ_2)) else some ((-1), μ))
theorem B_X11_undo_39 {l : Launch} {x : gw_C} {d : Nat} {S : gw_S} {Q : Option Value → gw_S → gw_M → Prop} {K : Nat → gw_Kt} {mc ms cc ss : Nat} (hcc : cc ≤ mc) (hss : ss ≤ ms) (hK : gw_cl l x (d + 1) mc ms bsX11_undo Q K) {a0 : Nat} (hS0 : gw_sh S 11 a0) {n0 : Nat} : ∀ {n : Nat} {v1 v2} {μ : gw_M} {r μ'}, F_X11_undo_39 n0 a0 n v1 v2 μ = some (r, μ') → Q (some (.int r)) S μ' → K 39 [.ref a0, .int v1, .int v2] [] S μ cc ss := by
  have ka0_0 : gw_kd S a0 = 11 := (hS0 0 _ rfl).1
  have ra0_0_0 : gw_rf S a0 0 = a0 + 1 := (hS0 0 _ rfl).2.2 (0, 1) (by decide)
  have ka0_1 : gw_kd S (a0 + 1) = 12 := (hS0 1 _ rfl).1
  have la0_1 : gw_ln S (a0 + 1) = 20813 := (hS0 1 _ rfl).2.1
  intro n
  induction n with
  | zero => intro v1 v2 μ r μ' h hq; simp [F_X11_undo_39] at h
  | succ n ih =>
    intro v1 v2 μ r μ' h hq
    simp only [F_X11_undo_39] at h
    refine hK _ _ _ _ _ _ _ ?_
    rw [fdX11_undo_39]
    simp only [gt_nil, true_and, eq_self, gt_iload_n, gt_ink, gw_nth, gt_sipush, gt_icmp, gt_aload_n, gt_rfk, gt_get_r, gt_get_i, gt_get_z, gt_iconst, gt_iadd, gt_iaload, gt_iastore, gt_iinc, gw_set, gt_goto, bkX11_undo_39, ka0_0, ra0_0_0, ka0_1, la0_1, (show Int32.toNatClampNeg 0 = 0 from rfl)]
    refine ⟨fun c_1 => ?_, fun c_1 => ?_⟩
    · replace h := gw_ifp2 (gw_c2_ge _ _) h c_1
      refine hK _ _ _ _ _ _ _ ?_
      rw [fdX11_undo_68]
      simp only [gt_nil, true_and, eq_self, gt_aload_n, gt_rfk, gw_nth, gt_get_r, gt_get_i, gt_get_z, gt_iconst, gt_iaload, gt_iret, gt_retz, bkX11_undo_68, ka0_0, ra0_0_0, ka0_1, la0_1, (show Int32.toNatClampNeg 0 = 0 from rfl)]
      refine ⟨(⟨by decide, by decide⟩ : gw_in 0 20813), ?_⟩
      obtain ⟨rfl, rfl⟩ := gw_inj2 h
      exact ⟨hcc, hss, hq⟩
    · replace h := gw_ifn2 (gw_c2_ge _ _) h c_1
      obtain ⟨c_2, h⟩ := gw_ife h
      refine ⟨c_2, ?_⟩
      obtain ⟨c_3, h⟩ := gw_ife h
      refine ⟨c_3, ?_⟩
      obtain ⟨μ_4, hμ_4, h⟩ := gw_lt h
      try rw [← hμ_4]
      obtain ⟨w_5, hw_5, h⟩ := gw_lt h
      try rw [← hw_5]
      exact ih h hq
theorem ok_X11_undo {l : Launch} {x : gw_C} {d : Nat} {S : gw_S} {Q : Option Value → gw_S → gw_M → Prop} {a0 : Nat} {n0 : Nat} {μ : gw_M} {r μ'} (hS0 : gw_sh S 11 a0) (h : F_X11_undo n0 a0 μ = some (r, μ')) (hq : Q (some (.int r)) S μ') : gw_ok l x (d + 2) sgX11_undo 0 0 [.ref a0] S μ Q := by
  refine gw_ok_of stX11_undo (lv0 := [.ref a0, .retAddr 0, .retAddr 0]) (Nat.le_of_ble_eq_true rfl) rfl rfl ?_
  intro K hK
  have hcc : 0 ≤ 0 := Nat.zero_le _
  have hss : 0 ≤ 0 := Nat.zero_le _
  have ka0_0 : gw_kd S a0 = 11 := (hS0 0 _ rfl).1
  have ra0_0_0 : gw_rf S a0 0 = a0 + 1 := (hS0 0 _ rfl).2.2 (0, 1) (by decide)
  have ka0_1 : gw_kd S (a0 + 1) = 12 := (hS0 1 _ rfl).1
  have la0_1 : gw_ln S (a0 + 1) = 20813 := (hS0 1 _ rfl).2.1
  unfold F_X11_undo at h
  refine hK _ _ _ _ _ _ _ ?_
  rw [fdX11_undo_0]
  simp only [gt_nil, true_and, eq_self, gt_aload_n, gt_rfk, gw_nth, gt_get_r, gt_get_i, gt_get_z, gt_iconst, gt_iaload, gt_if, gt_iret, gt_retz, bkX11_undo_0, ka0_0, ra0_0_0, ka0_1, la0_1, (show Int32.toNatClampNeg 0 = 0 from rfl), (show Int32.toNatClampNeg 1 = 1 from rfl)]
  refine ⟨(⟨by decide, by decide⟩ : gw_in 0 20813), ?_⟩
  refine ⟨fun c_1 => ?_, fun c_1 => ?_⟩
  · replace h := gw_ifp h c_1
    refine hK _ _ _ _ _ _ _ ?_
    rw [fdX11_undo_11]
    simp only [gt_nil, true_and, eq_self, gt_aload_n, gt_rfk, gw_nth, gt_get_r, gt_get_i, gt_get_z, gt_iconst, gt_dup2, gt_iaload, gt_isub, gt_iastore, gt_s1_0, gt_s2_0, gt_s3_0, gt_s4_0, gt_s1_1, gt_s2_1, gt_s3_1, gt_s4_1, gt_acpy, gt_istore_n, gw_set, bkX11_undo_11, ka0_0, ra0_0_0, ka0_1, la0_1, (show Int32.toNatClampNeg 0 = 0 from rfl), (show Int32.toNatClampNeg 1 = 1 from rfl)]
    refine ⟨(⟨by decide, by decide⟩ : gw_in 0 20813), ?_⟩
    refine ⟨(⟨by decide, by decide⟩ : gw_in 0 20813), ?_⟩
    obtain ⟨μ_2, hμ_2, h⟩ := gw_lt h
    try rw [← hμ_2]
    refine ⟨(⟨by decide, by decide⟩ : gw_in 1 20813), ?_⟩
    refine ⟨(⟨by decide, by decide⟩ : gw_in 0 20813), ?_⟩
    obtain ⟨r_3, e_5, h⟩ := gw_bnd h
    refine ⟨rfl, 0, 0, hcc, hss, ok_X11_stepAt e_5 ?_⟩
    simp only [gt_nil, true_and, eq_self, gt_istore_n, gw_set, gt_iconst, Option.toList, List.cons_append, List.nil_append, Nat.add_zero, ka0_0, ra0_0_0, ka0_1, la0_1, (show Int32.toNatClampNeg 0 = 0 from rfl), (show Int32.toNatClampNeg 1 = 1 from rfl)]
    exact B_X11_undo_39 hcc hss hK hS0 h hq
  · replace h := gw_ifn h c_1
    obtain ⟨rfl, rfl⟩ := gw_inj2 h
    exact ⟨hcc, hss, hq⟩
def F_X11_canTell (n0 : Nat) (a0 : Nat) (v1 : Int32) (μ : gw_M) : Option (Int32) := (if ¬ v1 = 0 then (if ¬ v1 = 1 then (if ¬ v1 = 2 then some 0 else some 1) else (if ¬ (μ (a0 + 1) 2) = 1 then some 0 else some 1)) else (if ¬ (μ (a0 + 1) 2) = 2 then some 0 else some 1))
theorem ok_X11_canTell {l : Launch} {x : gw_C} {d : Nat} {S : gw_S} {Q : Option Value → gw_S → gw_M → Prop} {v1 : Int32} {a0 : Nat} {n0 : Nat} {μ : gw_M} {r} (hS0 : gw_sh S 11 a0) (h : F_X11_canTell n0 a0 v1 μ = some r) (hq : ((r = 0 ∨ r = 1) → Q (some (.int r)) S μ)) : gw_ok l x (d + 1) sgX11_canTell 0 0 [.ref a0, .int v1] S μ Q := by
  refine gw_ok_of stX11_canTell (lv0 := [.ref a0, .int v1]) (Nat.le_of_ble_eq_true rfl) rfl rfl ?_
  intro K hK
  have hcc : 0 ≤ 0 := Nat.zero_le _
  have hss : 0 ≤ 0 := Nat.zero_le _
  have ka0_0 : gw_kd S a0 = 11 := (hS0 0 _ rfl).1
  have ra0_0_0 : gw_rf S a0 0 = a0 + 1 := (hS0 0 _ rfl).2.2 (0, 1) (by decide)
  have ka0_1 : gw_kd S (a0 + 1) = 12 := (hS0 1 _ rfl).1
  have la0_1 : gw_ln S (a0 + 1) = 20813 := (hS0 1 _ rfl).2.1
  unfold F_X11_canTell at h
  refine hK _ _ _ _ _ _ _ ?_
  rw [fdX11_canTell_0]
  simp only [gt_nil, true_and, eq_self, gt_iload_n, gt_ink, gw_nth, gt_if, gt_aload_n, gt_rfk, gt_get_r, gt_get_i, gt_get_z, gt_iconst, gt_iaload, gt_icmp, gt_goto, bkX11_canTell_0, ka0_0, ra0_0_0, ka0_1, la0_1, (show Int32.toNatClampNeg 2 = 2 from rfl)]
  refine ⟨fun c_1 => ?_, fun c_1 => ?_⟩
  · replace h := gw_ifp h c_1
    refine hK _ _ _ _ _ _ _ ?_
    rw [fdX11_canTell_22]
    simp only [gt_nil, true_and, eq_self, gt_iload_n, gt_ink, gw_nth, gt_iconst, gt_icmp, gt_aload_n, gt_rfk, gt_get_r, gt_get_i, gt_get_z, gt_iaload, gt_goto, bkX11_canTell_22, ka0_0, ra0_0_0, ka0_1, la0_1, (show Int32.toNatClampNeg 2 = 2 from rfl)]
    refine ⟨fun c_2 => ?_, fun c_2 => ?_⟩
    · replace h := gw_ifp2 (gw_c2_ne _ _) h c_2
      refine hK _ _ _ _ _ _ _ ?_
      rw [fdX11_canTell_45]
      simp only [gt_nil, true_and, eq_self, gt_iload_n, gt_ink, gw_nth, gt_iconst, gt_icmp, gt_goto, bkX11_canTell_45, ka0_0, ra0_0_0, ka0_1, la0_1, (show Int32.toNatClampNeg 2 = 2 from rfl)]
      refine ⟨fun c_3 => ?_, fun c_3 => ?_⟩
      · replace h := gw_ifp2 (gw_c2_ne _ _) h c_3
        refine hK _ _ _ _ _ _ _ ?_
        rw [fdX11_canTell_54]
        simp only [gt_nil, true_and, eq_self, gt_iconst, bkX11_canTell_54, ka0_0, ra0_0_0, ka0_1, la0_1, (show Int32.toNatClampNeg 2 = 2 from rfl)]
        refine hK _ _ _ _ _ _ _ ?_
        rw [fdX11_canTell_55]
        simp only [gt_nil, true_and, eq_self, gt_iret, gt_retz, bkX11_canTell_55, ka0_0, ra0_0_0, ka0_1, la0_1, (show Int32.toNatClampNeg 2 = 2 from rfl)]
        obtain rfl := gw_inj1 h
        exact ⟨(Or.inl rfl), hcc, hss, hq (Or.inl rfl)⟩
      · replace h := gw_ifn2 (gw_c2_ne _ _) h c_3
        refine hK _ _ _ _ _ _ _ ?_
        rw [fdX11_canTell_55]
        simp only [gt_nil, true_and, eq_self, gt_iret, gt_retz, bkX11_canTell_55, ka0_0, ra0_0_0, ka0_1, la0_1, (show Int32.toNatClampNeg 2 = 2 from rfl)]
        obtain rfl := gw_inj1 h
        exact ⟨(Or.inr rfl), hcc, hss, hq (Or.inr rfl)⟩
    · replace h := gw_ifn2 (gw_c2_ne _ _) h c_2
      refine ⟨(⟨by decide, by decide⟩ : gw_in 2 20813), ?_⟩
      refine ⟨fun c_4 => ?_, fun c_4 => ?_⟩
      · replace h := gw_ifp2 (gw_c2_ne _ _) h c_4
        refine hK _ _ _ _ _ _ _ ?_
        rw [fdX11_canTell_41]
        simp only [gt_nil, true_and, eq_self, gt_iconst, gt_goto, bkX11_canTell_41, ka0_0, ra0_0_0, ka0_1, la0_1, (show Int32.toNatClampNeg 2 = 2 from rfl)]
        refine hK _ _ _ _ _ _ _ ?_
        rw [fdX11_canTell_55]
        simp only [gt_nil, true_and, eq_self, gt_iret, gt_retz, bkX11_canTell_55, ka0_0, ra0_0_0, ka0_1, la0_1, (show Int32.toNatClampNeg 2 = 2 from rfl)]
        obtain rfl := gw_inj1 h
        exact ⟨(Or.inl rfl), hcc, hss, hq (Or.inl rfl)⟩
      · replace h := gw_ifn2 (gw_c2_ne _ _) h c_4
        refine hK _ _ _ _ _ _ _ ?_
        rw [fdX11_canTell_55]
        simp only [gt_nil, true_and, eq_self, gt_iret, gt_retz, bkX11_canTell_55, ka0_0, ra0_0_0, ka0_1, la0_1, (show Int32.toNatClampNeg 2 = 2 from rfl)]
        obtain rfl := gw_inj1 h
        exact ⟨(Or.inr rfl), hcc, hss, hq (Or.inr rfl)⟩
  · replace h := gw_ifn h c_1
    refine ⟨(⟨by decide, by decide⟩ : gw_in 2 20813), ?_⟩
    refine ⟨fun c_5 => ?_, fun c_5 => ?_⟩
    · replace h := gw_ifp2 (gw_c2_ne _ _) h c_5
      refine hK _ _ _ _ _ _ _ ?_
      rw [fdX11_canTell_18]
      simp only [gt_nil, true_and, eq_self, gt_iconst, gt_goto, bkX11_canTell_18, ka0_0, ra0_0_0, ka0_1, la0_1, (show Int32.toNatClampNeg 2 = 2 from rfl)]
      refine hK _ _ _ _ _ _ _ ?_
      rw [fdX11_canTell_55]
      simp only [gt_nil, true_and, eq_self, gt_iret, gt_retz, bkX11_canTell_55, ka0_0, ra0_0_0, ka0_1, la0_1, (show Int32.toNatClampNeg 2 = 2 from rfl)]
      obtain rfl := gw_inj1 h
      exact ⟨(Or.inl rfl), hcc, hss, hq (Or.inl rfl)⟩
    · replace h := gw_ifn2 (gw_c2_ne _ _) h c_5
      refine hK _ _ _ _ _ _ _ ?_
      rw [fdX11_canTell_55]
      simp only [gt_nil, true_and, eq_self, gt_iret, gt_retz, bkX11_canTell_55, ka0_0, ra0_0_0, ka0_1, la0_1, (show Int32.toNatClampNeg 2 = 2 from rfl)]
      obtain rfl := gw_inj1 h
      exact ⟨(Or.inr rfl), hcc, hss, hq (Or.inr rfl)⟩
def F_X11_tellEntry (n0 : Nat) (a0 : Nat) (v1 : Int32) (v2 : Int32) (v3 : Int32) (v4 : Int32) (μ : gw_M) : Option (gw_M) := (F_X11_layEntry n0 a0 v1 v2 v3 v4 μ).bind (fun (μ_2 : gw_M) => (if ¬ v1 = 2 then some μ_2 else (if 0 ≤ ((812 : Int32) + v2) ∧ ((812 : Int32) + v2).toNatClampNeg < 20813 then gw_let (gw_up μ_2 (a0 + 1) ((812 : Int32) + v2).toNatClampNeg (-1)) (fun (μ_7 : gw_M) => some μ_7) else none)))
theorem ok_X11_tellEntry {l : Launch} {x : gw_C} {d : Nat} {S : gw_S} {Q : Option Value → gw_S → gw_M → Prop} {v1 v2 v3 v4 : Int32} {a0 : Nat} {n0 : Nat} {μ : gw_M} {μ'} (hS0 : gw_sh S 11 a0) (h : F_X11_tellEntry n0 a0 v1 v2 v3 v4 μ = some μ') (hq : Q none S μ') : gw_ok l x (d + 7) sgX11_tellEntry 0 0 [.ref a0, .int v1, .int v2, .int v3, .int v4] S μ Q := by
  refine gw_ok_of stX11_tellEntry (lv0 := [.ref a0, .int v1, .int v2, .int v3, .int v4]) (Nat.le_of_ble_eq_true rfl) rfl rfl ?_
  intro K hK
  have hcc : 0 ≤ 0 := Nat.zero_le _
  have hss : 0 ≤ 0 := Nat.zero_le _
  have ka0_0 : gw_kd S a0 = 11 := (hS0 0 _ rfl).1
  have ra0_0_0 : gw_rf S a0 0 = a0 + 1 := (hS0 0 _ rfl).2.2 (0, 1) (by decide)
  have ka0_1 : gw_kd S (a0 + 1) = 12 := (hS0 1 _ rfl).1
  have la0_1 : gw_ln S (a0 + 1) = 20813 := (hS0 1 _ rfl).2.1
  unfold F_X11_tellEntry at h
  refine hK _ _ _ _ _ _ _ ?_
  rw [fdX11_tellEntry_0]
  simp only [gt_nil, true_and, eq_self, gt_aload_n, gt_rfk, gw_nth, gt_iload_n, gt_ink, gt_iload, gt_v0, gt_v1, gt_v2, gt_v3, gt_v4, gt_v5, gt_iconst, gt_icmp, gt_get_r, gt_get_i, gt_get_z, gt_sipush, gt_iadd, gt_iastore, bkX11_tellEntry_0, ka0_0, ra0_0_0, ka0_1, la0_1]
  obtain ⟨μ_2, e_3, h⟩ := gw_bnd h
  refine ⟨rfl, 0, 0, hcc, hss, ok_X11_layEntry hS0 e_3 ?_⟩
  simp only [gt_nil, true_and, eq_self, gt_iload_n, gt_ink, gw_nth, gt_iconst, gt_icmp, gt_aload_n, gt_rfk, gt_get_r, gt_get_i, gt_get_z, gt_sipush, gt_iadd, gt_iastore, Option.toList, List.cons_append, List.nil_append, Nat.add_zero, ka0_0, ra0_0_0, ka0_1, la0_1]
  refine ⟨fun c_5 => ?_, fun c_5 => ?_⟩
  · replace h := gw_ifp2 (gw_c2_ne _ _) h c_5
    refine hK _ _ _ _ _ _ _ ?_
    rw [fdX11_tellEntry_25]
    simp only [gt_nil, true_and, eq_self, gt_vret, bkX11_tellEntry_25, ka0_0, ra0_0_0, ka0_1, la0_1]
    obtain rfl := gw_inj1 h
    exact ⟨hcc, hss, hq⟩
  · replace h := gw_ifn2 (gw_c2_ne _ _) h c_5
    obtain ⟨c_6, h⟩ := gw_ife h
    refine ⟨c_6, ?_⟩
    obtain ⟨μ_7, hμ_7, h⟩ := gw_lt h
    try rw [← hμ_7]
    refine hK _ _ _ _ _ _ _ ?_
    rw [fdX11_tellEntry_25]
    simp only [gt_nil, true_and, eq_self, gt_vret, bkX11_tellEntry_25, ka0_0, ra0_0_0, ka0_1, la0_1]
    obtain rfl := gw_inj1 h
    exact ⟨hcc, hss, hq⟩
def F_X11_entry_29 (n0 : Nat) (a0 : Nat) (v1 : Int32) (v2 : Int32) (v3 : Int32) (v4 : Int32) (s0 : Int32) (s1 : Int32) (s2 : Int32) (μ : gw_M) : Option (Int32 × gw_M) := (F_X11_isIn n0 s0 s1 s2 μ).bind (fun (r_1 : Int32) => (if r_1 = 0 then some (0, μ) else (F_X11_isIn n0 v4 1 7 μ).bind (fun (r_6 : Int32) => (if ¬ r_6 = 0 then (F_X11_keep n0 a0 μ).bind (fun (μ_12 : gw_M) => (F_X11_tellEntry n0 a0 v1 v2 v3 v4 μ_12).bind (fun (μ_16 : gw_M) => (F_X11_dealOut n0 a0 μ_16).bind (fun (μ_20 : gw_M) => some (1, μ_20)))) else some (0, μ)))))
def F_X11_entry (n0 : Nat) (a0 : Nat) (v1 : Int32) (v2 : Int32) (v3 : Int32) (v4 : Int32) (μ : gw_M) : Option (Int32 × gw_M) := (F_X11_canTell n0 a0 v1 μ).bind (fun (r_1 : Int32) => (if r_1 = 0 then some (0, μ) else (F_X11_isPage n0 v2 μ).bind (fun (r_6 : Int32) => (if r_6 = 0 then some (0, μ) else (if ¬ v1 = 2 then F_X11_entry_29 n0 a0 v1 v2 v3 v4 v3 0 15 μ else F_X11_entry_29 n0 a0 v1 v2 v3 v4 v3 0 9 μ)))))
theorem B_X11_entry_29 {l : Launch} {x : gw_C} {d : Nat} {S : gw_S} {Q : Option Value → gw_S → gw_M → Prop} {K : Nat → gw_Kt} {mc ms cc ss : Nat} (hcc : cc ≤ mc) (hss : ss ≤ ms) (hK : gw_cl l x (d + 7) mc ms bsX11_entry Q K) {a0 : Nat} (hS0 : gw_sh S 11 a0) {n0 : Nat} {v1 v2 v3 v4 s0 s1 s2} {μ : gw_M} {r μ'} (h : F_X11_entry_29 n0 a0 v1 v2 v3 v4 s0 s1 s2 μ = some (r, μ')) (hq : ((r = 0 ∨ r = 1) → Q (some (.int r)) S μ')) : K 29 [.ref a0, .int v1, .int v2, .int v3, .int v4] [.int s2, .int s1, .int s0] S μ cc ss := by
  have ka0_0 : gw_kd S a0 = 11 := (hS0 0 _ rfl).1
  unfold F_X11_entry_29 at h
  refine hK _ _ _ _ _ _ _ ?_
  rw [fdX11_entry_29]
  simp only [gt_nil, true_and, eq_self, gt_s1_0, gt_s2_0, gt_s3_0, gt_s4_0, gt_s1_1, gt_s2_1, gt_s3_1, gt_s4_1, gt_acpy, gt_if, gt_iload, gt_ink, gw_nth, gt_iconst, gt_bipush, bkX11_entry_29, ka0_0]
  obtain ⟨r_1, e_3, h⟩ := gw_bnd h
  refine ⟨rfl, 0, 0, hcc, hss, ok_X11_isIn e_3 ?_⟩
  intro hbr_1
  simp only [gt_nil, true_and, eq_self, gt_if, gt_iload, gt_ink, gw_nth, gt_iconst, gt_bipush, gt_s1_0, gt_s2_0, gt_s3_0, gt_s4_0, gt_s1_1, gt_s2_1, gt_s3_1, gt_s4_1, gt_acpy, Option.toList, List.cons_append, List.nil_append, Nat.add_zero, ka0_0]
  refine ⟨fun c_5 => ?_, fun c_5 => ?_⟩
  · replace h := gw_ifp h c_5
    refine hK _ _ _ _ _ _ _ ?_
    rw [fdX11_entry_46]
    simp only [gt_nil, true_and, eq_self, gt_iconst, gt_iret, gt_retz, bkX11_entry_46, ka0_0]
    obtain ⟨rfl, rfl⟩ := gw_inj2 h
    exact ⟨(Or.inl rfl), hcc, hss, hq (Or.inl rfl)⟩
  · replace h := gw_ifn h c_5
    obtain ⟨r_6, e_8, h⟩ := gw_bnd h
    refine ⟨rfl, 0, 0, hcc, hss, ok_X11_isIn e_8 ?_⟩
    intro hbr_6
    simp only [gt_nil, true_and, eq_self, gt_if, Option.toList, List.cons_append, List.nil_append, Nat.add_zero, ka0_0]
    refine ⟨fun c_10 => ?_, fun c_10 => ?_⟩
    · replace h := gw_ifp h c_10
      refine hK _ _ _ _ _ _ _ ?_
      rw [fdX11_entry_48]
      simp only [gt_nil, true_and, eq_self, gt_aload_n, gt_rfk, gw_nth, gt_v0, gt_v1, gt_v2, gt_v3, gt_v4, gt_v5, gt_iload_n, gt_ink, gt_iload, gt_iconst, gt_iret, gt_retz, bkX11_entry_48, ka0_0]
      obtain ⟨μ_12, e_13, h⟩ := gw_bnd h
      refine ⟨rfl, 0, 0, hcc, hss, ok_X11_keep hS0 e_13 ?_⟩
      simp only [gt_nil, true_and, eq_self, gt_aload_n, gt_rfk, gw_nth, gt_iload_n, gt_ink, gt_iload, gt_v0, gt_v1, gt_v2, gt_v3, gt_v4, gt_v5, gt_iconst, gt_iret, gt_retz, Option.toList, List.cons_append, List.nil_append, Nat.add_zero, ka0_0]
      obtain ⟨μ_16, e_17, h⟩ := gw_bnd h
      refine ⟨rfl, 0, 0, hcc, hss, ok_X11_tellEntry hS0 e_17 ?_⟩
      simp only [gt_nil, true_and, eq_self, gt_aload_n, gt_rfk, gw_nth, gt_v0, gt_v1, gt_v2, gt_v3, gt_v4, gt_v5, gt_iconst, gt_iret, gt_retz, Option.toList, List.cons_append, List.nil_append, Nat.add_zero, ka0_0]
      obtain ⟨μ_20, e_21, h⟩ := gw_bnd h
      refine ⟨rfl, 0, 0, hcc, hss, ok_X11_dealOut hS0 e_21 ?_⟩
      simp only [gt_nil, true_and, eq_self, gt_iconst, gt_iret, gt_retz, Option.toList, List.cons_append, List.nil_append, Nat.add_zero, ka0_0]
      obtain ⟨rfl, rfl⟩ := gw_inj2 h
      exact ⟨(Or.inr rfl), hcc, hss, hq (Or.inr rfl)⟩
    · replace h := gw_ifn h c_10
      refine hK _ _ _ _ _ _ _ ?_
      rw [fdX11_entry_46]
      simp only [gt_nil, true_and, eq_self, gt_iconst, gt_iret, gt_retz, bkX11_entry_46, ka0_0]
      obtain ⟨rfl, rfl⟩ := gw_inj2 h
      exact ⟨(Or.inl rfl), hcc, hss, hq (Or.inl rfl)⟩
theorem ok_X11_entry {l : Launch} {x : gw_C} {d : Nat} {S : gw_S} {Q : Option Value → gw_S → gw_M → Prop} {v1 v2 v3 v4 : Int32} {a0 : Nat} {n0 : Nat} {μ : gw_M} {r μ'} (hS0 : gw_sh S 11 a0) (h : F_X11_entry n0 a0 v1 v2 v3 v4 μ = some (r, μ')) (hq : ((r = 0 ∨ r = 1) → Q (some (.int r)) S μ')) : gw_ok l x (d + 8) sgX11_entry 0 0 [.ref a0, .int v1, .int v2, .int v3, .int v4] S μ Q := by
  refine gw_ok_of stX11_entry (lv0 := [.ref a0, .int v1, .int v2, .int v3, .int v4]) (Nat.le_of_ble_eq_true rfl) rfl rfl ?_
  intro K hK
  have hcc : 0 ≤ 0 := Nat.zero_le _
  have hss : 0 ≤ 0 := Nat.zero_le _
  have ka0_0 : gw_kd S a0 = 11 := (hS0 0 _ rfl).1
  unfold F_X11_entry at h
  refine hK _ _ _ _ _ _ _ ?_
  rw [fdX11_entry_0]
  simp only [gt_nil, true_and, eq_self, gt_aload_n, gt_rfk, gw_nth, gt_iload_n, gt_ink, gt_v0, gt_v1, gt_v2, gt_v3, gt_v4, gt_v5, gt_if, gt_s1_0, gt_s2_0, gt_s3_0, gt_s4_0, gt_s1_1, gt_s2_1, gt_s3_1, gt_s4_1, gt_acpy, gt_iconst, gt_icmp, gt_bipush, gt_goto, bkX11_entry_0, ka0_0]
  obtain ⟨r_1, e_3, h⟩ := gw_bnd h
  refine ⟨rfl, 0, 0, hcc, hss, ok_X11_canTell hS0 e_3 ?_⟩
  intro hbr_1
  simp only [gt_nil, true_and, eq_self, gt_if, gt_iload_n, gt_ink, gw_nth, gt_s1_0, gt_s2_0, gt_s3_0, gt_s4_0, gt_s1_1, gt_s2_1, gt_s3_1, gt_s4_1, gt_acpy, gt_iconst, gt_icmp, gt_bipush, gt_goto, Option.toList, List.cons_append, List.nil_append, Nat.add_zero, ka0_0]
  refine ⟨fun c_5 => ?_, fun c_5 => ?_⟩
  · replace h := gw_ifp h c_5
    refine hK _ _ _ _ _ _ _ ?_
    rw [fdX11_entry_46]
    simp only [gt_nil, true_and, eq_self, gt_iconst, gt_iret, gt_retz, bkX11_entry_46, ka0_0]
    obtain ⟨rfl, rfl⟩ := gw_inj2 h
    exact ⟨(Or.inl rfl), hcc, hss, hq (Or.inl rfl)⟩
  · replace h := gw_ifn h c_5
    obtain ⟨r_6, e_8, h⟩ := gw_bnd h
    refine ⟨rfl, 0, 0, hcc, hss, ok_X11_isPage e_8 ?_⟩
    intro hbr_6
    simp only [gt_nil, true_and, eq_self, gt_if, gt_iload_n, gt_ink, gw_nth, gt_iconst, gt_icmp, gt_bipush, gt_goto, Option.toList, List.cons_append, List.nil_append, Nat.add_zero, ka0_0]
    refine ⟨fun c_10 => ?_, fun c_10 => ?_⟩
    · replace h := gw_ifp h c_10
      refine hK _ _ _ _ _ _ _ ?_
      rw [fdX11_entry_46]
      simp only [gt_nil, true_and, eq_self, gt_iconst, gt_iret, gt_retz, bkX11_entry_46, ka0_0]
      obtain ⟨rfl, rfl⟩ := gw_inj2 h
      exact ⟨(Or.inl rfl), hcc, hss, hq (Or.inl rfl)⟩
    · replace h := gw_ifn h c_10
      refine ⟨fun c_11 => ?_, fun c_11 => ?_⟩
      · replace h := gw_ifp2 (gw_c2_ne _ _) h c_11
        refine hK _ _ _ _ _ _ _ ?_
        rw [fdX11_entry_27]
        simp only [gt_nil, true_and, eq_self, gt_bipush, bkX11_entry_27, ka0_0]
        exact B_X11_entry_29 hcc hss hK hS0 h hq
      · replace h := gw_ifn2 (gw_c2_ne _ _) h c_11
        exact B_X11_entry_29 hcc hss hK hS0 h hq
def F_X11_clear (n0 : Nat) (a0 : Nat) (v1 : Int32) (v2 : Int32) (μ : gw_M) : Option (Int32 × gw_M) := (F_X11_canTell n0 a0 v1 μ).bind (fun (r_1 : Int32) => (if r_1 = 0 then some (0, μ) else (F_X11_isPage n0 v2 μ).bind (fun (r_6 : Int32) => (if r_6 = 0 then some (0, μ) else (F_X11_toOf n0 a0 v1 v2 μ).bind (fun (r_11 : Int32) => (if ¬ r_11 = (-1) then (F_X11_keep n0 a0 μ).bind (fun (μ_17 : gw_M) => (F_X11_tellEntry n0 a0 v1 v2 (-1) 0 μ_17).bind (fun (μ_21 : gw_M) => (F_X11_dealOut n0 a0 μ_21).bind (fun (μ_25 : gw_M) => some (1, μ_25)))) else some (0, μ)))))))
theorem ok_X11_clear {l : Launch} {x : gw_C} {d : Nat} {S : gw_S} {Q : Option Value → gw_S → gw_M → Prop} {v1 v2 : Int32} {a0 : Nat} {n0 : Nat} {μ : gw_M} {r μ'} (hS0 : gw_sh S 11 a0) (h : F_X11_clear n0 a0 v1 v2 μ = some (r, μ')) (hq : ((r = 0 ∨ r = 1) → Q (some (.int r)) S μ')) : gw_ok l x (d + 8) sgX11_clear 0 0 [.ref a0, .int v1, .int v2] S μ Q := by
  refine gw_ok_of stX11_clear (lv0 := [.ref a0, .int v1, .int v2]) (Nat.le_of_ble_eq_true rfl) rfl rfl ?_
  intro K hK
  have hcc : 0 ≤ 0 := Nat.zero_le _
  have hss : 0 ≤ 0 := Nat.zero_le _
  have ka0_0 : gw_kd S a0 = 11 := (hS0 0 _ rfl).1
  unfold F_X11_clear at h
  refine hK _ _ _ _ _ _ _ ?_
  rw [fdX11_clear_0]
  simp only [gt_nil, true_and, eq_self, gt_aload_n, gt_rfk, gw_nth, gt_iload_n, gt_ink, gt_v0, gt_v1, gt_v2, gt_v3, gt_v4, gt_v5, gt_if, gt_s1_0, gt_s2_0, gt_s3_0, gt_s4_0, gt_s1_1, gt_s2_1, gt_s3_1, gt_s4_1, gt_acpy, gt_iconst, gt_icmp, bkX11_clear_0, ka0_0]
  obtain ⟨r_1, e_3, h⟩ := gw_bnd h
  refine ⟨rfl, 0, 0, hcc, hss, ok_X11_canTell hS0 e_3 ?_⟩
  intro hbr_1
  simp only [gt_nil, true_and, eq_self, gt_if, gt_iload_n, gt_ink, gw_nth, gt_s1_0, gt_s2_0, gt_s3_0, gt_s4_0, gt_s1_1, gt_s2_1, gt_s3_1, gt_s4_1, gt_acpy, gt_aload_n, gt_rfk, gt_v0, gt_v1, gt_v2, gt_v3, gt_v4, gt_v5, gt_iconst, gt_icmp, Option.toList, List.cons_append, List.nil_append, Nat.add_zero, ka0_0]
  refine ⟨fun c_5 => ?_, fun c_5 => ?_⟩
  · replace h := gw_ifp h c_5
    refine hK _ _ _ _ _ _ _ ?_
    rw [fdX11_clear_25]
    simp only [gt_nil, true_and, eq_self, gt_iconst, gt_iret, gt_retz, bkX11_clear_25, ka0_0]
    obtain ⟨rfl, rfl⟩ := gw_inj2 h
    exact ⟨(Or.inl rfl), hcc, hss, hq (Or.inl rfl)⟩
  · replace h := gw_ifn h c_5
    obtain ⟨r_6, e_8, h⟩ := gw_bnd h
    refine ⟨rfl, 0, 0, hcc, hss, ok_X11_isPage e_8 ?_⟩
    intro hbr_6
    simp only [gt_nil, true_and, eq_self, gt_if, gt_aload_n, gt_rfk, gw_nth, gt_iload_n, gt_ink, gt_v0, gt_v1, gt_v2, gt_v3, gt_v4, gt_v5, gt_iconst, gt_icmp, Option.toList, List.cons_append, List.nil_append, Nat.add_zero, ka0_0]
    refine ⟨fun c_10 => ?_, fun c_10 => ?_⟩
    · replace h := gw_ifp h c_10
      refine hK _ _ _ _ _ _ _ ?_
      rw [fdX11_clear_25]
      simp only [gt_nil, true_and, eq_self, gt_iconst, gt_iret, gt_retz, bkX11_clear_25, ka0_0]
      obtain ⟨rfl, rfl⟩ := gw_inj2 h
      exact ⟨(Or.inl rfl), hcc, hss, hq (Or.inl rfl)⟩
    · replace h := gw_ifn h c_10
      obtain ⟨r_11, e_13, h⟩ := gw_bnd h
      refine ⟨rfl, 0, 0, hcc, hss, ok_X11_toOf hS0 e_13 ?_⟩
      simp only [gt_nil, true_and, eq_self, gt_iconst, gt_icmp, Option.toList, List.cons_append, List.nil_append, Nat.add_zero, ka0_0]
      refine ⟨fun c_15 => ?_, fun c_15 => ?_⟩
      · replace h := gw_ifp2 (gw_c2_ne _ _) h c_15
        refine hK _ _ _ _ _ _ _ ?_
        rw [fdX11_clear_27]
        simp only [gt_nil, true_and, eq_self, gt_aload_n, gt_rfk, gw_nth, gt_v0, gt_v1, gt_v2, gt_v3, gt_v4, gt_v5, gt_iload_n, gt_ink, gt_iconst, gt_iret, gt_retz, bkX11_clear_27, ka0_0]
        obtain ⟨μ_17, e_18, h⟩ := gw_bnd h
        refine ⟨rfl, 0, 0, hcc, hss, ok_X11_keep hS0 e_18 ?_⟩
        simp only [gt_nil, true_and, eq_self, gt_aload_n, gt_rfk, gw_nth, gt_iload_n, gt_ink, gt_iconst, gt_v0, gt_v1, gt_v2, gt_v3, gt_v4, gt_v5, gt_iret, gt_retz, Option.toList, List.cons_append, List.nil_append, Nat.add_zero, ka0_0]
        obtain ⟨μ_21, e_22, h⟩ := gw_bnd h
        refine ⟨rfl, 0, 0, hcc, hss, ok_X11_tellEntry hS0 e_22 ?_⟩
        simp only [gt_nil, true_and, eq_self, gt_aload_n, gt_rfk, gw_nth, gt_v0, gt_v1, gt_v2, gt_v3, gt_v4, gt_v5, gt_iconst, gt_iret, gt_retz, Option.toList, List.cons_append, List.nil_append, Nat.add_zero, ka0_0]
        obtain ⟨μ_25, e_26, h⟩ := gw_bnd h
        refine ⟨rfl, 0, 0, hcc, hss, ok_X11_dealOut hS0 e_26 ?_⟩
        simp only [gt_nil, true_and, eq_self, gt_iconst, gt_iret, gt_retz, Option.toList, List.cons_append, List.nil_append, Nat.add_zero, ka0_0]
        obtain ⟨rfl, rfl⟩ := gw_inj2 h
        exact ⟨(Or.inr rfl), hcc, hss, hq (Or.inr rfl)⟩
      · replace h := gw_ifn2 (gw_c2_ne _ _) h c_15
        refine hK _ _ _ _ _ _ _ ?_
        rw [fdX11_clear_25]
        simp only [gt_nil, true_and, eq_self, gt_iconst, gt_iret, gt_retz, bkX11_clear_25, ka0_0]
        obtain ⟨rfl, rfl⟩ := gw_inj2 h
        exact ⟨(Or.inl rfl), hcc, hss, hq (Or.inl rfl)⟩
def F_X11_roomNow_7 (n0 : Nat) (a0 : Nat) : Nat → Int32 → gw_M → Option (gw_M)
  | 0, _, _ => none
  | n + 1, v1, μ => (if (μ (a0 + 1) 23) ≤ v1 then some μ else (F_X11_unfold n0 a0 (μ (a0 + 1) 786) μ).bind (fun (μ_3 : gw_M) => F_X11_roomNow_7 n0 a0 n v1 μ_3))
def F_X11_roomNow (n0 : Nat) (a0 : Nat) (v1 : Int32) (μ : gw_M) : Option (gw_M) := gw_let (gw_up μ (a0 + 1) 4 v1) (fun (μ_1 : gw_M) => F_X11_roomNow_7 n0 a0 n0 v1 μ_1)
theorem B_X11_roomNow_7 {l : Launch} {x : gw_C} {d : Nat} {S : gw_S} {Q : Option Value → gw_S → gw_M → Prop} {K : Nat → gw_Kt} {mc ms cc ss : Nat} (hcc : cc ≤ mc) (hss : ss ≤ ms) (hK : gw_cl l x (d + 4) mc ms bsX11_roomNow Q K) {a0 : Nat} (hS0 : gw_sh S 11 a0) {n0 : Nat} : ∀ {n : Nat} {v1} {μ : gw_M} {μ'}, F_X11_roomNow_7 n0 a0 n v1 μ = some μ' → Q none S μ' → K 7 [.ref a0, .int v1] [] S μ cc ss := by
  have ka0_0 : gw_kd S a0 = 11 := (hS0 0 _ rfl).1
  have ra0_0_0 : gw_rf S a0 0 = a0 + 1 := (hS0 0 _ rfl).2.2 (0, 1) (by decide)
  have ka0_1 : gw_kd S (a0 + 1) = 12 := (hS0 1 _ rfl).1
  have la0_1 : gw_ln S (a0 + 1) = 20813 := (hS0 1 _ rfl).2.1
  intro n
  induction n with
  | zero => intro v1 μ μ' h hq; simp [F_X11_roomNow_7] at h
  | succ n ih =>
    intro v1 μ μ' h hq
    simp only [F_X11_roomNow_7] at h
    refine hK _ _ _ _ _ _ _ ?_
    rw [fdX11_roomNow_7]
    simp only [gt_nil, true_and, eq_self, gt_aload_n, gt_rfk, gw_nth, gt_get_r, gt_get_i, gt_get_z, gt_bipush, gt_iaload, gt_iload_n, gt_ink, gt_icmp, gt_sipush, gt_v0, gt_v1, gt_v2, gt_v3, gt_v4, gt_v5, gt_goto, bkX11_roomNow_7, ka0_0, ra0_0_0, ka0_1, la0_1, (show Int32.toNatClampNeg 23 = 23 from rfl), (show Int32.toNatClampNeg 786 = 786 from rfl)]
    refine ⟨(⟨by decide, by decide⟩ : gw_in 23 20813), ?_⟩
    refine ⟨fun c_1 => ?_, fun c_1 => ?_⟩
    · replace h := gw_ifp2 (gw_c2_le _ _) h c_1
      refine hK _ _ _ _ _ _ _ ?_
      rw [fdX11_roomNow_33]
      simp only [gt_nil, true_and, eq_self, gt_vret, bkX11_roomNow_33, ka0_0, ra0_0_0, ka0_1, la0_1, (show Int32.toNatClampNeg 23 = 23 from rfl), (show Int32.toNatClampNeg 786 = 786 from rfl)]
      obtain rfl := gw_inj1 h
      exact ⟨hcc, hss, hq⟩
    · replace h := gw_ifn2 (gw_c2_le _ _) h c_1
      refine ⟨(⟨by decide, by decide⟩ : gw_in 786 20813), ?_⟩
      obtain ⟨μ_3, e_4, h⟩ := gw_bnd h
      refine ⟨rfl, 0, 0, hcc, hss, ok_X11_unfold hS0 e_4 ?_⟩
      simp only [gt_nil, true_and, eq_self, gt_goto, Option.toList, List.cons_append, List.nil_append, Nat.add_zero, ka0_0, ra0_0_0, ka0_1, la0_1, (show Int32.toNatClampNeg 23 = 23 from rfl), (show Int32.toNatClampNeg 786 = 786 from rfl)]
      exact ih h hq
theorem ok_X11_roomNow {l : Launch} {x : gw_C} {d : Nat} {S : gw_S} {Q : Option Value → gw_S → gw_M → Prop} {v1 : Int32} {a0 : Nat} {n0 : Nat} {μ : gw_M} {μ'} (hS0 : gw_sh S 11 a0) (h : F_X11_roomNow n0 a0 v1 μ = some μ') (hq : Q none S μ') : gw_ok l x (d + 5) sgX11_roomNow 0 0 [.ref a0, .int v1] S μ Q := by
  refine gw_ok_of stX11_roomNow (lv0 := [.ref a0, .int v1]) (Nat.le_of_ble_eq_true rfl) rfl rfl ?_
  intro K hK
  have hcc : 0 ≤ 0 := Nat.zero_le _
  have hss : 0 ≤ 0 := Nat.zero_le _
  have ka0_0 : gw_kd S a0 = 11 := (hS0 0 _ rfl).1
  have ra0_0_0 : gw_rf S a0 0 = a0 + 1 := (hS0 0 _ rfl).2.2 (0, 1) (by decide)
  have ka0_1 : gw_kd S (a0 + 1) = 12 := (hS0 1 _ rfl).1
  have la0_1 : gw_ln S (a0 + 1) = 20813 := (hS0 1 _ rfl).2.1
  unfold F_X11_roomNow at h
  refine hK _ _ _ _ _ _ _ ?_
  rw [fdX11_roomNow_0]
  simp only [gt_nil, true_and, eq_self, gt_aload_n, gt_rfk, gw_nth, gt_get_r, gt_get_i, gt_get_z, gt_iconst, gt_iload_n, gt_ink, gt_iastore, bkX11_roomNow_0, ka0_0, ra0_0_0, ka0_1, la0_1, (show Int32.toNatClampNeg 4 = 4 from rfl)]
  refine ⟨(⟨by decide, by decide⟩ : gw_in 4 20813), ?_⟩
  obtain ⟨μ_1, hμ_1, h⟩ := gw_lt h
  try rw [← hμ_1]
  exact B_X11_roomNow_7 hcc hss hK hS0 h hq
def F_X11_room (n0 : Nat) (a0 : Nat) (v1 : Int32) (μ : gw_M) : Option (Int32 × gw_M) := (F_X11_isIn n0 v1 1 16 μ).bind (fun (r_1 : Int32) => (if ¬ r_1 = 0 then (F_X11_keep n0 a0 μ).bind (fun (μ_7 : gw_M) => (F_X11_roomNow n0 a0 v1 μ_7).bind (fun (μ_11 : gw_M) => (F_X11_dealOut n0 a0 μ_11).bind (fun (μ_15 : gw_M) => some (1, μ_15)))) else some (0, μ)))
theorem ok_X11_room {l : Launch} {x : gw_C} {d : Nat} {S : gw_S} {Q : Option Value → gw_S → gw_M → Prop} {v1 : Int32} {a0 : Nat} {n0 : Nat} {μ : gw_M} {r μ'} (hS0 : gw_sh S 11 a0) (h : F_X11_room n0 a0 v1 μ = some (r, μ')) (hq : ((r = 0 ∨ r = 1) → Q (some (.int r)) S μ')) : gw_ok l x (d + 6) sgX11_room 0 0 [.ref a0, .int v1] S μ Q := by
  refine gw_ok_of stX11_room (lv0 := [.ref a0, .int v1]) (Nat.le_of_ble_eq_true rfl) rfl rfl ?_
  intro K hK
  have hcc : 0 ≤ 0 := Nat.zero_le _
  have hss : 0 ≤ 0 := Nat.zero_le _
  have ka0_0 : gw_kd S a0 = 11 := (hS0 0 _ rfl).1
  unfold F_X11_room at h
  refine hK _ _ _ _ _ _ _ ?_
  rw [fdX11_room_0]
  simp only [gt_nil, true_and, eq_self, gt_iload_n, gt_ink, gw_nth, gt_iconst, gt_bipush, gt_s1_0, gt_s2_0, gt_s3_0, gt_s4_0, gt_s1_1, gt_s2_1, gt_s3_1, gt_s4_1, gt_acpy, gt_if, gt_iret, gt_retz, bkX11_room_0, ka0_0]
  obtain ⟨r_1, e_3, h⟩ := gw_bnd h
  refine ⟨rfl, 0, 0, hcc, hss, ok_X11_isIn e_3 ?_⟩
  intro hbr_1
  simp only [gt_nil, true_and, eq_self, gt_if, gt_iconst, gt_iret, gt_retz, Option.toList, List.cons_append, List.nil_append, Nat.add_zero, ka0_0]
  refine ⟨fun c_5 => ?_, fun c_5 => ?_⟩
  · replace h := gw_ifp h c_5
    refine hK _ _ _ _ _ _ _ ?_
    rw [fdX11_room_12]
    simp only [gt_nil, true_and, eq_self, gt_aload_n, gt_rfk, gw_nth, gt_v0, gt_v1, gt_v2, gt_v3, gt_v4, gt_v5, gt_iload_n, gt_ink, gt_iconst, gt_iret, gt_retz, bkX11_room_12, ka0_0]
    obtain ⟨μ_7, e_8, h⟩ := gw_bnd h
    refine ⟨rfl, 0, 0, hcc, hss, ok_X11_keep hS0 e_8 ?_⟩
    simp only [gt_nil, true_and, eq_self, gt_aload_n, gt_rfk, gw_nth, gt_iload_n, gt_ink, gt_v0, gt_v1, gt_v2, gt_v3, gt_v4, gt_v5, gt_iconst, gt_iret, gt_retz, Option.toList, List.cons_append, List.nil_append, Nat.add_zero, ka0_0]
    obtain ⟨μ_11, e_12, h⟩ := gw_bnd h
    refine ⟨rfl, 0, 0, hcc, hss, ok_X11_roomNow hS0 e_12 ?_⟩
    simp only [gt_nil, true_and, eq_self, gt_aload_n, gt_rfk, gw_nth, gt_v0, gt_v1, gt_v2, gt_v3, gt_v4, gt_v5, gt_iconst, gt_iret, gt_retz, Option.toList, List.cons_append, List.nil_append, Nat.add_zero, ka0_0]
    obtain ⟨μ_15, e_16, h⟩ := gw_bnd h
    refine ⟨rfl, 0, 0, hcc, hss, ok_X11_dealOut hS0 e_16 ?_⟩
    simp only [gt_nil, true_and, eq_self, gt_iconst, gt_iret, gt_retz, Option.toList, List.cons_append, List.nil_append, Nat.add_zero, ka0_0]
    obtain ⟨rfl, rfl⟩ := gw_inj2 h
    exact ⟨(Or.inr rfl), hcc, hss, hq (Or.inr rfl)⟩
  · replace h := gw_ifn h c_5
    obtain ⟨rfl, rfl⟩ := gw_inj2 h
    exact ⟨(Or.inl rfl), hcc, hss, hq (Or.inl rfl)⟩
def F_X11_isLazy_42 (n0 : Nat) (a0 : Nat) (μ : gw_M) : Option (Int32) := some 0
def F_X11_isLazy (n0 : Nat) (a0 : Nat) (v1 : Int32) (μ : gw_M) : Option (Int32) := (F_X11_toOf n0 a0 1 v1 μ).bind (fun (r_1 : Int32) => (if r_1 = (-1) then F_X11_isLazy_42 n0 a0 μ else (F_X11_rightsOf n0 a0 1 v1 μ).bind (fun (r_6 : Int32) => (F_X11_rightsOf n0 a0 2 r_1 μ).bind (fun (r_10 : Int32) => (if (r_6 &&& r_10) = 0 then F_X11_isLazy_42 n0 a0 μ else (F_X11_toOf n0 a0 3 v1 μ).bind (fun (r_15 : Int32) => (if ¬ r_15 = (-1) then F_X11_isLazy_42 n0 a0 μ else some 1)))))))
theorem B_X11_isLazy_42 {l : Launch} {x : gw_C} {d : Nat} {S : gw_S} {Q : Option Value → gw_S → gw_M → Prop} {K : Nat → gw_Kt} {mc ms cc ss : Nat} (hcc : cc ≤ mc) (hss : ss ≤ ms) (hK : gw_cl l x (d + 3) mc ms bsX11_isLazy Q K) {a0 : Nat} (hS0 : gw_sh S 11 a0) {n0 : Nat}  {u1 u2 : Value} {μ : gw_M} {r} (h : F_X11_isLazy_42 n0 a0 μ = some r) (hq : ((r = 0 ∨ r = 1) → Q (some (.int r)) S μ)) : K 42 [.ref a0, u1, u2] [] S μ cc ss := by
  unfold F_X11_isLazy_42 at h
  refine hK _ _ _ _ _ _ _ ?_
  rw [fdX11_isLazy_42]
  simp only [gt_nil, true_and, eq_self, gt_iconst, bkX11_isLazy_42]
  refine hK _ _ _ _ _ _ _ ?_
  rw [fdX11_isLazy_43]
  simp only [gt_nil, true_and, eq_self, gt_iret, gt_retz, bkX11_isLazy_43]
  obtain rfl := gw_inj1 h
  exact ⟨(Or.inl rfl), hcc, hss, hq (Or.inl rfl)⟩
theorem ok_X11_isLazy {l : Launch} {x : gw_C} {d : Nat} {S : gw_S} {Q : Option Value → gw_S → gw_M → Prop} {v1 : Int32} {a0 : Nat} {n0 : Nat} {μ : gw_M} {r} (hS0 : gw_sh S 11 a0) (h : F_X11_isLazy n0 a0 v1 μ = some r) (hq : ((r = 0 ∨ r = 1) → Q (some (.int r)) S μ)) : gw_ok l x (d + 4) sgX11_isLazy 0 0 [.ref a0, .int v1] S μ Q := by
  refine gw_ok_of stX11_isLazy (lv0 := [.ref a0, .int v1, .retAddr 0]) (Nat.le_of_ble_eq_true rfl) rfl rfl ?_
  intro K hK
  have hcc : 0 ≤ 0 := Nat.zero_le _
  have hss : 0 ≤ 0 := Nat.zero_le _
  have ka0_0 : gw_kd S a0 = 11 := (hS0 0 _ rfl).1
  unfold F_X11_isLazy at h
  refine hK _ _ _ _ _ _ _ ?_
  rw [fdX11_isLazy_0]
  simp only [gt_nil, true_and, eq_self, gt_aload_n, gt_rfk, gw_nth, gt_iconst, gt_iload_n, gt_ink, gt_v0, gt_v1, gt_v2, gt_v3, gt_v4, gt_v5, gt_istore_n, gw_set, gt_icmp, gt_iand, gt_if, gt_goto, bkX11_isLazy_0, ka0_0]
  obtain ⟨r_1, e_3, h⟩ := gw_bnd h
  refine ⟨rfl, 0, 0, hcc, hss, ok_X11_toOf hS0 e_3 ?_⟩
  simp only [gt_nil, true_and, eq_self, gt_istore_n, gw_set, gt_iload_n, gt_ink, gw_nth, gt_iconst, gt_icmp, gt_aload_n, gt_rfk, gt_v0, gt_v1, gt_v2, gt_v3, gt_v4, gt_v5, gt_iand, gt_if, gt_goto, Option.toList, List.cons_append, List.nil_append, Nat.add_zero, ka0_0]
  refine ⟨fun c_5 => ?_, fun c_5 => ?_⟩
  · replace h := gw_ifp2 (gw_c2_eq _ _) h c_5
    exact B_X11_isLazy_42 hcc hss hK hS0 h hq
  · replace h := gw_ifn2 (gw_c2_eq _ _) h c_5
    obtain ⟨r_6, e_8, h⟩ := gw_bnd h
    refine ⟨rfl, 0, 0, hcc, hss, ok_X11_rightsOf hS0 e_8 ?_⟩
    simp only [gt_nil, true_and, eq_self, gt_aload_n, gt_rfk, gw_nth, gt_iconst, gt_iload_n, gt_ink, gt_v0, gt_v1, gt_v2, gt_v3, gt_v4, gt_v5, gt_iand, gt_if, gt_icmp, gt_goto, Option.toList, List.cons_append, List.nil_append, Nat.add_zero, ka0_0]
    obtain ⟨r_10, e_12, h⟩ := gw_bnd h
    refine ⟨rfl, 0, 0, hcc, hss, ok_X11_rightsOf hS0 e_12 ?_⟩
    simp only [gt_nil, true_and, eq_self, gt_iand, gt_if, gt_aload_n, gt_rfk, gw_nth, gt_iconst, gt_iload_n, gt_ink, gt_v0, gt_v1, gt_v2, gt_v3, gt_v4, gt_v5, gt_icmp, gt_goto, Option.toList, List.cons_append, List.nil_append, Nat.add_zero, ka0_0]
    refine ⟨fun c_14 => ?_, fun c_14 => ?_⟩
    · replace h := gw_ifp h c_14
      exact B_X11_isLazy_42 hcc hss hK hS0 h hq
    · replace h := gw_ifn h c_14
      obtain ⟨r_15, e_17, h⟩ := gw_bnd h
      refine ⟨rfl, 0, 0, hcc, hss, ok_X11_toOf hS0 e_17 ?_⟩
      simp only [gt_nil, true_and, eq_self, gt_iconst, gt_icmp, gt_goto, Option.toList, List.cons_append, List.nil_append, Nat.add_zero, ka0_0]
      refine ⟨fun c_19 => ?_, fun c_19 => ?_⟩
      · replace h := gw_ifp2 (gw_c2_ne _ _) h c_19
        exact B_X11_isLazy_42 hcc hss hK hS0 h hq
      · replace h := gw_ifn2 (gw_c2_ne _ _) h c_19
        refine hK _ _ _ _ _ _ _ ?_
        rw [fdX11_isLazy_43]
        simp only [gt_nil, true_and, eq_self, gt_iret, gt_retz, bkX11_isLazy_43, ka0_0]
        obtain rfl := gw_inj1 h
        exact ⟨(Or.inr rfl), hcc, hss, hq (Or.inr rfl)⟩
def F_X11_foldAhead_49 (rec8 : Int32 → Int32 → gw_M → Option (Int32 × gw_M)) (n0 : Nat) (a0 : Nat) (v1 : Int32) (v2 : Int32) (μ : gw_M) : Option (Int32 × gw_M) := gw_let (v2 + 1) (fun (w_1 : Int32) => rec8 v1 w_1 μ)
def F_X11_foldAhead_8 (n0 : Nat) (a0 : Nat) : Nat → Int32 → Int32 → gw_M → Option (Int32 × gw_M)
  | 0, _, _, _ => none
  | n + 1, v1, v2, μ => (if 16 ≤ v2 then (F_X11_dealOut n0 a0 μ).bind (fun (μ_3 : gw_M) => some (v1, μ_3)) else (F_X11_isLazy n0 a0 v2 μ).bind (fun (r_6 : Int32) => (if r_6 = 0 then F_X11_foldAhead_49 (F_X11_foldAhead_8 n0 a0 n) n0 a0 v1 v2 μ else (if (μ (a0 + 1) 23) < (μ (a0 + 1) 4) then (F_X11_fold n0 a0 v2 μ).bind (fun (μ_13 : gw_M) => gw_let (v1 + 1) (fun (w_16 : Int32) => F_X11_foldAhead_49 (F_X11_foldAhead_8 n0 a0 n) n0 a0 w_16 v2 μ_13)) else F_X11_foldAhead_49 (F_X11_foldAhead_8 n0 a0 n) n0 a0 v1 v2 μ))))
def F_X11_foldAhead (n0 : Nat) (a0 : Nat) (μ : gw_M) : Option (Int32 × gw_M) := (F_X11_keep n0 a0 μ).bind (fun (μ_2 : gw_M) => F_X11_foldAhead_8 n0 a0 n0 0 0 μ_2)
theorem B_X11_foldAhead_49 {l : Launch} {x : gw_C} {d : Nat} {S : gw_S} {Q : Option Value → gw_S → gw_M → Prop} {K : Nat → gw_Kt} {mc ms cc ss : Nat} (hcc : cc ≤ mc) (hss : ss ≤ ms) (hK : gw_cl l x (d + 5) mc ms bsX11_foldAhead Q K) {a0 : Nat} (hS0 : gw_sh S 11 a0) {rec8 : Int32 → Int32 → gw_M → Option (Int32 × gw_M)} (hrec8 : ∀ {v1 v2} {μ : gw_M} {r μ'}, rec8 v1 v2 μ = some (r, μ') → Q (some (.int r)) S μ' → K 8 [.ref a0, .int v1, .int v2] [] S μ cc ss) {n0 : Nat} {v1 v2} {μ : gw_M} {r μ'} (h : F_X11_foldAhead_49 rec8 n0 a0 v1 v2 μ = some (r, μ')) (hq : Q (some (.int r)) S μ') : K 49 [.ref a0, .int v1, .int v2] [] S μ cc ss := by
  unfold F_X11_foldAhead_49 at h
  refine hK _ _ _ _ _ _ _ ?_
  rw [fdX11_foldAhead_49]
  simp only [gt_nil, true_and, eq_self, gt_iinc, gt_ink, gw_nth, gw_set, gt_goto, bkX11_foldAhead_49]
  obtain ⟨w_1, hw_1, h⟩ := gw_lt h
  try rw [← hw_1]
  exact hrec8 h hq
theorem B_X11_foldAhead_8 {l : Launch} {x : gw_C} {d : Nat} {S : gw_S} {Q : Option Value → gw_S → gw_M → Prop} {K : Nat → gw_Kt} {mc ms cc ss : Nat} (hcc : cc ≤ mc) (hss : ss ≤ ms) (hK : gw_cl l x (d + 5) mc ms bsX11_foldAhead Q K) {a0 : Nat} (hS0 : gw_sh S 11 a0) {n0 : Nat} : ∀ {n : Nat} {v1 v2} {μ : gw_M} {r μ'}, F_X11_foldAhead_8 n0 a0 n v1 v2 μ = some (r, μ') → Q (some (.int r)) S μ' → K 8 [.ref a0, .int v1, .int v2] [] S μ cc ss := by
  have ka0_0 : gw_kd S a0 = 11 := (hS0 0 _ rfl).1
  have ra0_0_0 : gw_rf S a0 0 = a0 + 1 := (hS0 0 _ rfl).2.2 (0, 1) (by decide)
  have ka0_1 : gw_kd S (a0 + 1) = 12 := (hS0 1 _ rfl).1
  have la0_1 : gw_ln S (a0 + 1) = 20813 := (hS0 1 _ rfl).2.1
  intro n
  induction n with
  | zero => intro v1 v2 μ r μ' h hq; simp [F_X11_foldAhead_8] at h
  | succ n ih =>
    intro v1 v2 μ r μ' h hq
    simp only [F_X11_foldAhead_8] at h
    refine hK _ _ _ _ _ _ _ ?_
    rw [fdX11_foldAhead_8]
    simp only [gt_nil, true_and, eq_self, gt_iload_n, gt_ink, gw_nth, gt_bipush, gt_icmp, gt_aload_n, gt_rfk, gt_v0, gt_v1, gt_v2, gt_v3, gt_v4, gt_v5, gt_if, gt_get_r, gt_get_i, gt_get_z, gt_iaload, gt_iconst, gt_goto, bkX11_foldAhead_8, ka0_0, ra0_0_0, ka0_1, la0_1, (show Int32.toNatClampNeg 23 = 23 from rfl), (show Int32.toNatClampNeg 4 = 4 from rfl)]
    refine ⟨fun c_1 => ?_, fun c_1 => ?_⟩
    · replace h := gw_ifp2 (gw_c2_ge _ _) h c_1
      refine hK _ _ _ _ _ _ _ ?_
      rw [fdX11_foldAhead_55]
      simp only [gt_nil, true_and, eq_self, gt_aload_n, gt_rfk, gw_nth, gt_v0, gt_v1, gt_v2, gt_v3, gt_v4, gt_v5, gt_iload_n, gt_ink, gt_iret, gt_retz, bkX11_foldAhead_55, ka0_0, ra0_0_0, ka0_1, la0_1, (show Int32.toNatClampNeg 23 = 23 from rfl), (show Int32.toNatClampNeg 4 = 4 from rfl)]
      obtain ⟨μ_3, e_4, h⟩ := gw_bnd h
      refine ⟨rfl, 0, 0, hcc, hss, ok_X11_dealOut hS0 e_4 ?_⟩
      simp only [gt_nil, true_and, eq_self, gt_iload_n, gt_ink, gw_nth, gt_iret, gt_retz, Option.toList, List.cons_append, List.nil_append, Nat.add_zero, ka0_0, ra0_0_0, ka0_1, la0_1, (show Int32.toNatClampNeg 23 = 23 from rfl), (show Int32.toNatClampNeg 4 = 4 from rfl)]
      obtain ⟨rfl, rfl⟩ := gw_inj2 h
      exact ⟨hcc, hss, hq⟩
    · replace h := gw_ifn2 (gw_c2_ge _ _) h c_1
      obtain ⟨r_6, e_8, h⟩ := gw_bnd h
      refine ⟨rfl, 0, 0, hcc, hss, ok_X11_isLazy hS0 e_8 ?_⟩
      intro hbr_6
      simp only [gt_nil, true_and, eq_self, gt_if, gt_aload_n, gt_rfk, gw_nth, gt_get_r, gt_get_i, gt_get_z, gt_bipush, gt_iaload, gt_iconst, gt_icmp, gt_goto, Option.toList, List.cons_append, List.nil_append, Nat.add_zero, ka0_0, ra0_0_0, ka0_1, la0_1, (show Int32.toNatClampNeg 23 = 23 from rfl), (show Int32.toNatClampNeg 4 = 4 from rfl)]
      refine ⟨fun c_10 => ?_, fun c_10 => ?_⟩
      · replace h := gw_ifp h c_10
        exact B_X11_foldAhead_49 hcc hss hK hS0 ih h hq
      · replace h := gw_ifn h c_10
        refine ⟨(⟨by decide, by decide⟩ : gw_in 23 20813), ?_⟩
        refine ⟨(⟨by decide, by decide⟩ : gw_in 4 20813), ?_⟩
        refine ⟨fun c_11 => ?_, fun c_11 => ?_⟩
        · replace h := gw_ifp2 (gw_c2_lt _ _) h c_11
          refine hK _ _ _ _ _ _ _ ?_
          rw [fdX11_foldAhead_41]
          simp only [gt_nil, true_and, eq_self, gt_aload_n, gt_rfk, gw_nth, gt_iload_n, gt_ink, gt_v0, gt_v1, gt_v2, gt_v3, gt_v4, gt_v5, gt_iinc, gw_set, bkX11_foldAhead_41, ka0_0, ra0_0_0, ka0_1, la0_1, (show Int32.toNatClampNeg 23 = 23 from rfl), (show Int32.toNatClampNeg 4 = 4 from rfl)]
          obtain ⟨μ_13, e_14, h⟩ := gw_bnd h
          refine ⟨rfl, 0, 0, hcc, hss, ok_X11_fold hS0 e_14 ?_⟩
          simp only [gt_nil, true_and, eq_self, gt_iinc, gt_ink, gw_nth, gw_set, Option.toList, List.cons_append, List.nil_append, Nat.add_zero, ka0_0, ra0_0_0, ka0_1, la0_1, (show Int32.toNatClampNeg 23 = 23 from rfl), (show Int32.toNatClampNeg 4 = 4 from rfl)]
          obtain ⟨w_16, hw_16, h⟩ := gw_lt h
          try rw [← hw_16]
          exact B_X11_foldAhead_49 hcc hss hK hS0 ih h hq
        · replace h := gw_ifn2 (gw_c2_lt _ _) h c_11
          exact B_X11_foldAhead_49 hcc hss hK hS0 ih h hq
theorem ok_X11_foldAhead {l : Launch} {x : gw_C} {d : Nat} {S : gw_S} {Q : Option Value → gw_S → gw_M → Prop} {a0 : Nat} {n0 : Nat} {μ : gw_M} {r μ'} (hS0 : gw_sh S 11 a0) (h : F_X11_foldAhead n0 a0 μ = some (r, μ')) (hq : Q (some (.int r)) S μ') : gw_ok l x (d + 6) sgX11_foldAhead 0 0 [.ref a0] S μ Q := by
  refine gw_ok_of stX11_foldAhead (lv0 := [.ref a0, .retAddr 0, .retAddr 0]) (Nat.le_of_ble_eq_true rfl) rfl rfl ?_
  intro K hK
  have hcc : 0 ≤ 0 := Nat.zero_le _
  have hss : 0 ≤ 0 := Nat.zero_le _
  have ka0_0 : gw_kd S a0 = 11 := (hS0 0 _ rfl).1
  unfold F_X11_foldAhead at h
  refine hK _ _ _ _ _ _ _ ?_
  rw [fdX11_foldAhead_0]
  simp only [gt_nil, true_and, eq_self, gt_aload_n, gt_rfk, gw_nth, gt_v0, gt_v1, gt_v2, gt_v3, gt_v4, gt_v5, gt_iconst, gt_istore_n, gw_set, bkX11_foldAhead_0, ka0_0]
  obtain ⟨μ_2, e_3, h⟩ := gw_bnd h
  refine ⟨rfl, 0, 0, hcc, hss, ok_X11_keep hS0 e_3 ?_⟩
  simp only [gt_nil, true_and, eq_self, gt_iconst, gt_istore_n, gw_set, Option.toList, List.cons_append, List.nil_append, Nat.add_zero, ka0_0]
  exact B_X11_foldAhead_8 hcc hss hK hS0 h hq
def F_X11_join_14 (rec8 : Int32 → Int32 → gw_M → Option (Int32 × gw_M)) (n0 : Nat) (a0 : Nat) : Nat → Int32 → Int32 → gw_M → Option (Int32 × gw_M)
  | 0, _, _, _ => none
  | n + 1, v1, v2, μ => (F_X11_likeOf n0 a0 v2 μ).bind (fun (r_1 : Int32) => (if r_1 = (-1) then gw_let (v2 + 1) (fun (w_6 : Int32) => rec8 v1 w_6 μ) else (F_X11_likeOf n0 a0 v2 μ).bind (fun (r_7 : Int32) => (F_X11_joinNow n0 a0 v2 r_7 μ).bind (fun (μ_12 : gw_M) => gw_let (v1 + 1) (fun (w_15 : Int32) => F_X11_join_14 rec8 n0 a0 n w_15 v2 μ_12)))))
def F_X11_join_8 (n0 : Nat) (a0 : Nat) : Nat → Int32 → Int32 → gw_M → Option (Int32 × gw_M)
  | 0, _, _, _ => none
  | n + 1, v1, v2, μ => (if 10 ≤ v2 then (F_X11_dealOut n0 a0 μ).bind (fun (μ_3 : gw_M) => some (v1, μ_3)) else F_X11_join_14 (F_X11_join_8 n0 a0 n) n0 a0 n0 v1 v2 μ)
def F_X11_join (n0 : Nat) (a0 : Nat) (μ : gw_M) : Option (Int32 × gw_M) := (F_X11_keep n0 a0 μ).bind (fun (μ_2 : gw_M) => F_X11_join_8 n0 a0 n0 0 0 μ_2)
theorem B_X11_join_14 {l : Launch} {x : gw_C} {d : Nat} {S : gw_S} {Q : Option Value → gw_S → gw_M → Prop} {K : Nat → gw_Kt} {mc ms cc ss : Nat} (hcc : cc ≤ mc) (hss : ss ≤ ms) (hK : gw_cl l x (d + 6) mc ms bsX11_join Q K) {a0 : Nat} (hS0 : gw_sh S 11 a0) {rec8 : Int32 → Int32 → gw_M → Option (Int32 × gw_M)} (hrec8 : ∀ {v1 v2} {μ : gw_M} {r μ'}, rec8 v1 v2 μ = some (r, μ') → Q (some (.int r)) S μ' → K 8 [.ref a0, .int v1, .int v2] [] S μ cc ss) {n0 : Nat} : ∀ {n : Nat} {v1 v2} {μ : gw_M} {r μ'}, F_X11_join_14 rec8 n0 a0 n v1 v2 μ = some (r, μ') → Q (some (.int r)) S μ' → K 14 [.ref a0, .int v1, .int v2] [] S μ cc ss := by
  have ka0_0 : gw_kd S a0 = 11 := (hS0 0 _ rfl).1
  intro n
  induction n with
  | zero => intro v1 v2 μ r μ' h hq; simp [F_X11_join_14] at h
  | succ n ih =>
    intro v1 v2 μ r μ' h hq
    simp only [F_X11_join_14] at h
    refine hK _ _ _ _ _ _ _ ?_
    rw [fdX11_join_14]
    simp only [gt_nil, true_and, eq_self, gt_aload_n, gt_rfk, gw_nth, gt_iload_n, gt_ink, gt_v0, gt_v1, gt_v2, gt_v3, gt_v4, gt_v5, gt_iconst, gt_icmp, gt_iinc, gw_set, gt_goto, bkX11_join_14, ka0_0]
    obtain ⟨r_1, e_3, h⟩ := gw_bnd h
    refine ⟨rfl, 0, 0, hcc, hss, ok_X11_likeOf hS0 e_3 ?_⟩
    simp only [gt_nil, true_and, eq_self, gt_iconst, gt_icmp, gt_aload_n, gt_rfk, gw_nth, gt_iload_n, gt_ink, gt_v0, gt_v1, gt_v2, gt_v3, gt_v4, gt_v5, gt_iinc, gw_set, gt_goto, Option.toList, List.cons_append, List.nil_append, Nat.add_zero, ka0_0]
    refine ⟨fun c_5 => ?_, fun c_5 => ?_⟩
    · replace h := gw_ifp2 (gw_c2_eq _ _) h c_5
      refine hK _ _ _ _ _ _ _ ?_
      rw [fdX11_join_39]
      simp only [gt_nil, true_and, eq_self, gt_iinc, gt_ink, gw_nth, gw_set, gt_goto, bkX11_join_39, ka0_0]
      obtain ⟨w_6, hw_6, h⟩ := gw_lt h
      try rw [← hw_6]
      exact hrec8 h hq
    · replace h := gw_ifn2 (gw_c2_eq _ _) h c_5
      obtain ⟨r_7, e_9, h⟩ := gw_bnd h
      refine ⟨rfl, 0, 0, hcc, hss, ok_X11_likeOf hS0 e_9 ?_⟩
      simp only [gt_nil, true_and, eq_self, gt_v0, gt_v1, gt_v2, gt_v3, gt_v4, gt_v5, gt_iinc, gt_ink, gw_nth, gw_set, gt_goto, Option.toList, List.cons_append, List.nil_append, Nat.add_zero, ka0_0]
      obtain ⟨μ_12, e_13, h⟩ := gw_bnd h
      refine ⟨rfl, 0, 0, hcc, hss, ok_X11_joinNow hS0 e_13 ?_⟩
      simp only [gt_nil, true_and, eq_self, gt_iinc, gt_ink, gw_nth, gw_set, gt_goto, Option.toList, List.cons_append, List.nil_append, Nat.add_zero, ka0_0]
      obtain ⟨w_15, hw_15, h⟩ := gw_lt h
      try rw [← hw_15]
      exact ih h hq
theorem B_X11_join_8 {l : Launch} {x : gw_C} {d : Nat} {S : gw_S} {Q : Option Value → gw_S → gw_M → Prop} {K : Nat → gw_Kt} {mc ms cc ss : Nat} (hcc : cc ≤ mc) (hss : ss ≤ ms) (hK : gw_cl l x (d + 6) mc ms bsX11_join Q K) {a0 : Nat} (hS0 : gw_sh S 11 a0) {n0 : Nat} : ∀ {n : Nat} {v1 v2} {μ : gw_M} {r μ'}, F_X11_join_8 n0 a0 n v1 v2 μ = some (r, μ') → Q (some (.int r)) S μ' → K 8 [.ref a0, .int v1, .int v2] [] S μ cc ss := by
  have ka0_0 : gw_kd S a0 = 11 := (hS0 0 _ rfl).1
  intro n
  induction n with
  | zero => intro v1 v2 μ r μ' h hq; simp [F_X11_join_8] at h
  | succ n ih =>
    intro v1 v2 μ r μ' h hq
    simp only [F_X11_join_8] at h
    refine hK _ _ _ _ _ _ _ ?_
    rw [fdX11_join_8]
    simp only [gt_nil, true_and, eq_self, gt_iload_n, gt_ink, gw_nth, gt_bipush, gt_icmp, bkX11_join_8, ka0_0]
    refine ⟨fun c_1 => ?_, fun c_1 => ?_⟩
    · replace h := gw_ifp2 (gw_c2_ge _ _) h c_1
      refine hK _ _ _ _ _ _ _ ?_
      rw [fdX11_join_45]
      simp only [gt_nil, true_and, eq_self, gt_aload_n, gt_rfk, gw_nth, gt_v0, gt_v1, gt_v2, gt_v3, gt_v4, gt_v5, gt_iload_n, gt_ink, gt_iret, gt_retz, bkX11_join_45, ka0_0]
      obtain ⟨μ_3, e_4, h⟩ := gw_bnd h
      refine ⟨rfl, 0, 0, hcc, hss, ok_X11_dealOut hS0 e_4 ?_⟩
      simp only [gt_nil, true_and, eq_self, gt_iload_n, gt_ink, gw_nth, gt_iret, gt_retz, Option.toList, List.cons_append, List.nil_append, Nat.add_zero, ka0_0]
      obtain ⟨rfl, rfl⟩ := gw_inj2 h
      exact ⟨hcc, hss, hq⟩
    · replace h := gw_ifn2 (gw_c2_ge _ _) h c_1
      exact B_X11_join_14 hcc hss hK hS0 ih h hq
theorem ok_X11_join {l : Launch} {x : gw_C} {d : Nat} {S : gw_S} {Q : Option Value → gw_S → gw_M → Prop} {a0 : Nat} {n0 : Nat} {μ : gw_M} {r μ'} (hS0 : gw_sh S 11 a0) (h : F_X11_join n0 a0 μ = some (r, μ')) (hq : Q (some (.int r)) S μ') : gw_ok l x (d + 7) sgX11_join 0 0 [.ref a0] S μ Q := by
  refine gw_ok_of stX11_join (lv0 := [.ref a0, .retAddr 0, .retAddr 0]) (Nat.le_of_ble_eq_true rfl) rfl rfl ?_
  intro K hK
  have hcc : 0 ≤ 0 := Nat.zero_le _
  have hss : 0 ≤ 0 := Nat.zero_le _
  have ka0_0 : gw_kd S a0 = 11 := (hS0 0 _ rfl).1
  unfold F_X11_join at h
  refine hK _ _ _ _ _ _ _ ?_
  rw [fdX11_join_0]
  simp only [gt_nil, true_and, eq_self, gt_aload_n, gt_rfk, gw_nth, gt_v0, gt_v1, gt_v2, gt_v3, gt_v4, gt_v5, gt_iconst, gt_istore_n, gw_set, bkX11_join_0, ka0_0]
  obtain ⟨μ_2, e_3, h⟩ := gw_bnd h
  refine ⟨rfl, 0, 0, hcc, hss, ok_X11_keep hS0 e_3 ?_⟩
  simp only [gt_nil, true_and, eq_self, gt_iconst, gt_istore_n, gw_set, Option.toList, List.cons_append, List.nil_append, Nat.add_zero, ka0_0]
  exact B_X11_join_8 hcc hss hK hS0 h hq
def F_X11_copied (n0 : Nat) (a0 : Nat) (μ : gw_M) : Option (Int32) := some (μ (a0 + 1) 27)
theorem ok_X11_copied {l : Launch} {x : gw_C} {d : Nat} {S : gw_S} {Q : Option Value → gw_S → gw_M → Prop} {a0 : Nat} {n0 : Nat} {μ : gw_M} {r} (hS0 : gw_sh S 11 a0) (h : F_X11_copied n0 a0 μ = some r) (hq : Q (some (.int r)) S μ) : gw_ok l x (d + 1) sgX11_copied 0 0 [.ref a0] S μ Q := by
  refine gw_ok_of stX11_copied (lv0 := [.ref a0]) (Nat.le_of_ble_eq_true rfl) rfl rfl ?_
  intro K hK
  have hcc : 0 ≤ 0 := Nat.zero_le _
  have hss : 0 ≤ 0 := Nat.zero_le _
  have ka0_0 : gw_kd S a0 = 11 := (hS0 0 _ rfl).1
  have ra0_0_0 : gw_rf S a0 0 = a0 + 1 := (hS0 0 _ rfl).2.2 (0, 1) (by decide)
  have ka0_1 : gw_kd S (a0 + 1) = 12 := (hS0 1 _ rfl).1
  have la0_1 : gw_ln S (a0 + 1) = 20813 := (hS0 1 _ rfl).2.1
  unfold F_X11_copied at h
  refine hK _ _ _ _ _ _ _ ?_
  rw [fdX11_copied_0]
  simp only [gt_nil, true_and, eq_self, gt_aload_n, gt_rfk, gw_nth, gt_get_r, gt_get_i, gt_get_z, gt_bipush, gt_iaload, gt_iret, gt_retz, bkX11_copied_0, ka0_0, ra0_0_0, ka0_1, la0_1, (show Int32.toNatClampNeg 27 = 27 from rfl)]
  refine ⟨(⟨by decide, by decide⟩ : gw_in 27 20813), ?_⟩
  obtain rfl := gw_inj1 h
  exact ⟨hcc, hss, hq⟩
def F_X11_trapPlace (n0 : Nat) (a0 : Nat) (v1 : Int32) (μ : gw_M) : Option (Int32 × gw_M) := (F_X11_isIn n0 v1 (-1) 23 μ).bind (fun (r_1 : Int32) => (if ¬ r_1 = 0 then (F_X11_keep n0 a0 μ).bind (fun (μ_7 : gw_M) => (F_X11_guestAt n0 a0 2 μ_7).bind (fun (r_10 : Int32) => (if 0 ≤ (r_10 + (143 : Int32)) ∧ (r_10 + (143 : Int32)).toNatClampNeg < 20813 then gw_let (gw_up μ_7 (a0 + 1) (r_10 + (143 : Int32)).toNatClampNeg v1) (fun (μ_15 : gw_M) => (F_X11_dealOut n0 a0 μ_15).bind (fun (μ_17 : gw_M) => some (1, μ_17))) else none))) else some (0, μ)))
theorem ok_X11_trapPlace {l : Launch} {x : gw_C} {d : Nat} {S : gw_S} {Q : Option Value → gw_S → gw_M → Prop} {v1 : Int32} {a0 : Nat} {n0 : Nat} {μ : gw_M} {r μ'} (hS0 : gw_sh S 11 a0) (h : F_X11_trapPlace n0 a0 v1 μ = some (r, μ')) (hq : ((r = 0 ∨ r = 1) → Q (some (.int r)) S μ')) : gw_ok l x (d + 5) sgX11_trapPlace 0 0 [.ref a0, .int v1] S μ Q := by
  refine gw_ok_of stX11_trapPlace (lv0 := [.ref a0, .int v1]) (Nat.le_of_ble_eq_true rfl) rfl rfl ?_
  intro K hK
  have hcc : 0 ≤ 0 := Nat.zero_le _
  have hss : 0 ≤ 0 := Nat.zero_le _
  have ka0_0 : gw_kd S a0 = 11 := (hS0 0 _ rfl).1
  have ra0_0_0 : gw_rf S a0 0 = a0 + 1 := (hS0 0 _ rfl).2.2 (0, 1) (by decide)
  have ka0_1 : gw_kd S (a0 + 1) = 12 := (hS0 1 _ rfl).1
  have la0_1 : gw_ln S (a0 + 1) = 20813 := (hS0 1 _ rfl).2.1
  unfold F_X11_trapPlace at h
  refine hK _ _ _ _ _ _ _ ?_
  rw [fdX11_trapPlace_0]
  simp only [gt_nil, true_and, eq_self, gt_iload_n, gt_ink, gw_nth, gt_iconst, gt_bipush, gt_s1_0, gt_s2_0, gt_s3_0, gt_s4_0, gt_s1_1, gt_s2_1, gt_s3_1, gt_s4_1, gt_acpy, gt_if, gt_iret, gt_retz, bkX11_trapPlace_0, ka0_0, ra0_0_0, ka0_1, la0_1]
  obtain ⟨r_1, e_3, h⟩ := gw_bnd h
  refine ⟨rfl, 0, 0, hcc, hss, ok_X11_isIn e_3 ?_⟩
  intro hbr_1
  simp only [gt_nil, true_and, eq_self, gt_if, gt_iconst, gt_iret, gt_retz, Option.toList, List.cons_append, List.nil_append, Nat.add_zero, ka0_0, ra0_0_0, ka0_1, la0_1]
  refine ⟨fun c_5 => ?_, fun c_5 => ?_⟩
  · replace h := gw_ifp h c_5
    refine hK _ _ _ _ _ _ _ ?_
    rw [fdX11_trapPlace_12]
    simp only [gt_nil, true_and, eq_self, gt_aload_n, gt_rfk, gw_nth, gt_v0, gt_v1, gt_v2, gt_v3, gt_v4, gt_v5, gt_get_r, gt_get_i, gt_get_z, gt_iconst, gt_sipush, gt_iadd, gt_iload_n, gt_ink, gt_iastore, gt_iret, gt_retz, bkX11_trapPlace_12, ka0_0, ra0_0_0, ka0_1, la0_1]
    obtain ⟨μ_7, e_8, h⟩ := gw_bnd h
    refine ⟨rfl, 0, 0, hcc, hss, ok_X11_keep hS0 e_8 ?_⟩
    simp only [gt_nil, true_and, eq_self, gt_aload_n, gt_rfk, gw_nth, gt_get_r, gt_get_i, gt_get_z, gt_iconst, gt_v0, gt_v1, gt_v2, gt_v3, gt_v4, gt_v5, gt_sipush, gt_iadd, gt_iload_n, gt_ink, gt_iastore, gt_iret, gt_retz, Option.toList, List.cons_append, List.nil_append, Nat.add_zero, ka0_0, ra0_0_0, ka0_1, la0_1]
    obtain ⟨r_10, e_12, h⟩ := gw_bnd h
    refine ⟨rfl, 0, 0, hcc, hss, ok_X11_guestAt hS0 e_12 ?_⟩
    simp only [gt_nil, true_and, eq_self, gt_sipush, gt_iadd, gt_iload_n, gt_ink, gw_nth, gt_iastore, gt_aload_n, gt_rfk, gt_v0, gt_v1, gt_v2, gt_v3, gt_v4, gt_v5, gt_iconst, gt_iret, gt_retz, Option.toList, List.cons_append, List.nil_append, Nat.add_zero, ka0_0, ra0_0_0, ka0_1, la0_1]
    obtain ⟨c_14, h⟩ := gw_ife h
    refine ⟨c_14, ?_⟩
    obtain ⟨μ_15, hμ_15, h⟩ := gw_lt h
    try rw [← hμ_15]
    obtain ⟨μ_17, e_18, h⟩ := gw_bnd h
    refine ⟨rfl, 0, 0, hcc, hss, ok_X11_dealOut hS0 e_18 ?_⟩
    simp only [gt_nil, true_and, eq_self, gt_iconst, gt_iret, gt_retz, Option.toList, List.cons_append, List.nil_append, Nat.add_zero, ka0_0, ra0_0_0, ka0_1, la0_1]
    obtain ⟨rfl, rfl⟩ := gw_inj2 h
    exact ⟨(Or.inr rfl), hcc, hss, hq (Or.inr rfl)⟩
  · replace h := gw_ifn h c_5
    obtain ⟨rfl, rfl⟩ := gw_inj2 h
    exact ⟨(Or.inl rfl), hcc, hss, hq (Or.inl rfl)⟩
def F_X11_trapped (n0 : Nat) (a0 : Nat) (v1 : Int32) (μ : gw_M) : Option (Int32) := (if ¬ v1 = 2 then (F_X11_isIn n0 v1 0 1 μ).bind (fun (r_2 : Int32) => (if r_2 = 0 then some (-1) else (F_X11_guestAt n0 a0 2 μ).bind (fun (r_7 : Int32) => (if 0 ≤ ((r_7 + (144 : Int32)) + v1) ∧ ((r_7 + (144 : Int32)) + v1).toNatClampNeg < 20813 then some (μ (a0 + 1) ((r_7 + (144 : Int32)) + v1).toNatClampNeg) else none)))) else (F_X11_guestAt n0 a0 2 μ).bind (fun (r_12 : Int32) => (if 0 ≤ (r_12 + (143 : Int32)) ∧ (r_12 + (143 : Int32)).toNatClampNeg < 20813 then some (μ (a0 + 1) (r_12 + (143 : Int32)).toNatClampNeg) else none)))
theorem ok_X11_trapped {l : Launch} {x : gw_C} {d : Nat} {S : gw_S} {Q : Option Value → gw_S → gw_M → Prop} {v1 : Int32} {a0 : Nat} {n0 : Nat} {μ : gw_M} {r} (hS0 : gw_sh S 11 a0) (h : F_X11_trapped n0 a0 v1 μ = some r) (hq : Q (some (.int r)) S μ) : gw_ok l x (d + 2) sgX11_trapped 0 0 [.ref a0, .int v1] S μ Q := by
  refine gw_ok_of stX11_trapped (lv0 := [.ref a0, .int v1]) (Nat.le_of_ble_eq_true rfl) rfl rfl ?_
  intro K hK
  have hcc : 0 ≤ 0 := Nat.zero_le _
  have hss : 0 ≤ 0 := Nat.zero_le _
  have ka0_0 : gw_kd S a0 = 11 := (hS0 0 _ rfl).1
  have ra0_0_0 : gw_rf S a0 0 = a0 + 1 := (hS0 0 _ rfl).2.2 (0, 1) (by decide)
  have ka0_1 : gw_kd S (a0 + 1) = 12 := (hS0 1 _ rfl).1
  have la0_1 : gw_ln S (a0 + 1) = 20813 := (hS0 1 _ rfl).2.1
  unfold F_X11_trapped at h
  refine hK _ _ _ _ _ _ _ ?_
  rw [fdX11_trapped_0]
  simp only [gt_nil, true_and, eq_self, gt_iload_n, gt_ink, gw_nth, gt_iconst, gt_icmp, gt_aload_n, gt_rfk, gt_get_r, gt_get_i, gt_get_z, gt_v0, gt_v1, gt_v2, gt_v3, gt_v4, gt_v5, gt_sipush, gt_iadd, gt_iaload, gt_goto, bkX11_trapped_0, ka0_0, ra0_0_0, ka0_1, la0_1]
  refine ⟨fun c_1 => ?_, fun c_1 => ?_⟩
  · replace h := gw_ifp2 (gw_c2_ne _ _) h c_1
    refine hK _ _ _ _ _ _ _ ?_
    rw [fdX11_trapped_22]
    simp only [gt_nil, true_and, eq_self, gt_iload_n, gt_ink, gw_nth, gt_iconst, gt_s1_0, gt_s2_0, gt_s3_0, gt_s4_0, gt_s1_1, gt_s2_1, gt_s3_1, gt_s4_1, gt_acpy, gt_if, gt_aload_n, gt_rfk, gt_get_r, gt_get_i, gt_get_z, gt_v0, gt_v1, gt_v2, gt_v3, gt_v4, gt_v5, gt_sipush, gt_iadd, gt_iaload, gt_goto, bkX11_trapped_22, ka0_0, ra0_0_0, ka0_1, la0_1]
    obtain ⟨r_2, e_4, h⟩ := gw_bnd h
    refine ⟨rfl, 0, 0, hcc, hss, ok_X11_isIn e_4 ?_⟩
    intro hbr_2
    simp only [gt_nil, true_and, eq_self, gt_if, gt_aload_n, gt_rfk, gw_nth, gt_get_r, gt_get_i, gt_get_z, gt_iconst, gt_v0, gt_v1, gt_v2, gt_v3, gt_v4, gt_v5, gt_sipush, gt_iadd, gt_iload_n, gt_ink, gt_iaload, gt_goto, Option.toList, List.cons_append, List.nil_append, Nat.add_zero, ka0_0, ra0_0_0, ka0_1, la0_1]
    refine ⟨fun c_6 => ?_, fun c_6 => ?_⟩
    · replace h := gw_ifp h c_6
      refine hK _ _ _ _ _ _ _ ?_
      rw [fdX11_trapped_50]
      simp only [gt_nil, true_and, eq_self, gt_iconst, bkX11_trapped_50, ka0_0, ra0_0_0, ka0_1, la0_1]
      refine hK _ _ _ _ _ _ _ ?_
      rw [fdX11_trapped_51]
      simp only [gt_nil, true_and, eq_self, gt_iret, gt_retz, bkX11_trapped_51, ka0_0, ra0_0_0, ka0_1, la0_1]
      obtain rfl := gw_inj1 h
      exact ⟨hcc, hss, hq⟩
    · replace h := gw_ifn h c_6
      obtain ⟨r_7, e_9, h⟩ := gw_bnd h
      refine ⟨rfl, 0, 0, hcc, hss, ok_X11_guestAt hS0 e_9 ?_⟩
      simp only [gt_nil, true_and, eq_self, gt_sipush, gt_iadd, gt_iload_n, gt_ink, gw_nth, gt_iaload, gt_goto, Option.toList, List.cons_append, List.nil_append, Nat.add_zero, ka0_0, ra0_0_0, ka0_1, la0_1]
      obtain ⟨c_11, h⟩ := gw_ife h
      refine ⟨c_11, ?_⟩
      refine hK _ _ _ _ _ _ _ ?_
      rw [fdX11_trapped_51]
      simp only [gt_nil, true_and, eq_self, gt_iret, gt_retz, bkX11_trapped_51, ka0_0, ra0_0_0, ka0_1, la0_1]
      obtain rfl := gw_inj1 h
      exact ⟨hcc, hss, hq⟩
  · replace h := gw_ifn2 (gw_c2_ne _ _) h c_1
    obtain ⟨r_12, e_14, h⟩ := gw_bnd h
    refine ⟨rfl, 0, 0, hcc, hss, ok_X11_guestAt hS0 e_14 ?_⟩
    simp only [gt_nil, true_and, eq_self, gt_sipush, gt_iadd, gt_iaload, gt_goto, Option.toList, List.cons_append, List.nil_append, Nat.add_zero, ka0_0, ra0_0_0, ka0_1, la0_1]
    obtain ⟨c_16, h⟩ := gw_ife h
    refine ⟨c_16, ?_⟩
    refine hK _ _ _ _ _ _ _ ?_
    rw [fdX11_trapped_51]
    simp only [gt_nil, true_and, eq_self, gt_iret, gt_retz, bkX11_trapped_51, ka0_0, ra0_0_0, ka0_1, la0_1]
    obtain rfl := gw_inj1 h
    exact ⟨hcc, hss, hq⟩
def F_X11_want_37 (n0 : Nat) (a0 : Nat) (v1 : Int32) (v2 : Int32) (μ : gw_M) : Option (Int32 × gw_M) := (F_X11_keep n0 a0 μ).bind (fun (μ_2 : gw_M) => (if 0 ≤ ((17 : Int32) + v1) ∧ ((17 : Int32) + v1).toNatClampNeg < 20813 then gw_let (gw_up μ_2 (a0 + 1) ((17 : Int32) + v1).toNatClampNeg v2) (fun (μ_6 : gw_M) => (F_X11_dealOut n0 a0 μ_6).bind (fun (μ_8 : gw_M) => some (1, μ_8))) else none))
def F_X11_want (n0 : Nat) (a0 : Nat) (v1 : Int32) (v2 : Int32) (μ : gw_M) : Option (Int32 × gw_M) := (F_X11_isIn n0 v1 0 1 μ).bind (fun (r_1 : Int32) => (if r_1 = 0 then some (0, μ) else (F_X11_isIn n0 v2 0 255 μ).bind (fun (r_6 : Int32) => (if r_6 = 0 then some (0, μ) else (if ¬ v1 = 1 then F_X11_want_37 n0 a0 v1 v2 μ else (if ¬ (μ (a0 + 1) 2) = 2 then F_X11_want_37 n0 a0 v1 v2 μ else some (0, μ)))))))
theorem B_X11_want_37 {l : Launch} {x : gw_C} {d : Nat} {S : gw_S} {Q : Option Value → gw_S → gw_M → Prop} {K : Nat → gw_Kt} {mc ms cc ss : Nat} (hcc : cc ≤ mc) (hss : ss ≤ ms) (hK : gw_cl l x (d + 4) mc ms bsX11_want Q K) {a0 : Nat} (hS0 : gw_sh S 11 a0) {n0 : Nat} {v1 v2} {μ : gw_M} {r μ'} (h : F_X11_want_37 n0 a0 v1 v2 μ = some (r, μ')) (hq : ((r = 0 ∨ r = 1) → Q (some (.int r)) S μ')) : K 37 [.ref a0, .int v1, .int v2] [] S μ cc ss := by
  have ka0_0 : gw_kd S a0 = 11 := (hS0 0 _ rfl).1
  have ra0_0_0 : gw_rf S a0 0 = a0 + 1 := (hS0 0 _ rfl).2.2 (0, 1) (by decide)
  have ka0_1 : gw_kd S (a0 + 1) = 12 := (hS0 1 _ rfl).1
  have la0_1 : gw_ln S (a0 + 1) = 20813 := (hS0 1 _ rfl).2.1
  unfold F_X11_want_37 at h
  refine hK _ _ _ _ _ _ _ ?_
  rw [fdX11_want_37]
  simp only [gt_nil, true_and, eq_self, gt_aload_n, gt_rfk, gw_nth, gt_v0, gt_v1, gt_v2, gt_v3, gt_v4, gt_v5, gt_get_r, gt_get_i, gt_get_z, gt_bipush, gt_iload_n, gt_ink, gt_iadd, gt_iastore, gt_iconst, gt_iret, gt_retz, bkX11_want_37, ka0_0, ra0_0_0, ka0_1, la0_1]
  obtain ⟨μ_2, e_3, h⟩ := gw_bnd h
  refine ⟨rfl, 0, 0, hcc, hss, ok_X11_keep hS0 e_3 ?_⟩
  simp only [gt_nil, true_and, eq_self, gt_aload_n, gt_rfk, gw_nth, gt_get_r, gt_get_i, gt_get_z, gt_bipush, gt_iload_n, gt_ink, gt_iadd, gt_iastore, gt_v0, gt_v1, gt_v2, gt_v3, gt_v4, gt_v5, gt_iconst, gt_iret, gt_retz, Option.toList, List.cons_append, List.nil_append, Nat.add_zero, ka0_0, ra0_0_0, ka0_1, la0_1]
  obtain ⟨c_5, h⟩ := gw_ife h
  refine ⟨c_5, ?_⟩
  obtain ⟨μ_6, hμ_6, h⟩ := gw_lt h
  try rw [← hμ_6]
  obtain ⟨μ_8, e_9, h⟩ := gw_bnd h
  refine ⟨rfl, 0, 0, hcc, hss, ok_X11_dealOut hS0 e_9 ?_⟩
  simp only [gt_nil, true_and, eq_self, gt_iconst, gt_iret, gt_retz, Option.toList, List.cons_append, List.nil_append, Nat.add_zero, ka0_0, ra0_0_0, ka0_1, la0_1]
  obtain ⟨rfl, rfl⟩ := gw_inj2 h
  exact ⟨(Or.inr rfl), hcc, hss, hq (Or.inr rfl)⟩
theorem ok_X11_want {l : Launch} {x : gw_C} {d : Nat} {S : gw_S} {Q : Option Value → gw_S → gw_M → Prop} {v1 v2 : Int32} {a0 : Nat} {n0 : Nat} {μ : gw_M} {r μ'} (hS0 : gw_sh S 11 a0) (h : F_X11_want n0 a0 v1 v2 μ = some (r, μ')) (hq : ((r = 0 ∨ r = 1) → Q (some (.int r)) S μ')) : gw_ok l x (d + 5) sgX11_want 0 0 [.ref a0, .int v1, .int v2] S μ Q := by
  refine gw_ok_of stX11_want (lv0 := [.ref a0, .int v1, .int v2]) (Nat.le_of_ble_eq_true rfl) rfl rfl ?_
  intro K hK
  have hcc : 0 ≤ 0 := Nat.zero_le _
  have hss : 0 ≤ 0 := Nat.zero_le _
  have ka0_0 : gw_kd S a0 = 11 := (hS0 0 _ rfl).1
  have ra0_0_0 : gw_rf S a0 0 = a0 + 1 := (hS0 0 _ rfl).2.2 (0, 1) (by decide)
  have ka0_1 : gw_kd S (a0 + 1) = 12 := (hS0 1 _ rfl).1
  have la0_1 : gw_ln S (a0 + 1) = 20813 := (hS0 1 _ rfl).2.1
  unfold F_X11_want at h
  refine hK _ _ _ _ _ _ _ ?_
  rw [fdX11_want_0]
  simp only [gt_nil, true_and, eq_self, gt_iload_n, gt_ink, gw_nth, gt_iconst, gt_s1_0, gt_s2_0, gt_s3_0, gt_s4_0, gt_s1_1, gt_s2_1, gt_s3_1, gt_s4_1, gt_acpy, gt_if, gt_sipush, gt_icmp, gt_aload_n, gt_rfk, gt_get_r, gt_get_i, gt_get_z, gt_iaload, bkX11_want_0, ka0_0, ra0_0_0, ka0_1, la0_1, (show Int32.toNatClampNeg 2 = 2 from rfl)]
  obtain ⟨r_1, e_3, h⟩ := gw_bnd h
  refine ⟨rfl, 0, 0, hcc, hss, ok_X11_isIn e_3 ?_⟩
  intro hbr_1
  simp only [gt_nil, true_and, eq_self, gt_if, gt_iload_n, gt_ink, gw_nth, gt_iconst, gt_sipush, gt_s1_0, gt_s2_0, gt_s3_0, gt_s4_0, gt_s1_1, gt_s2_1, gt_s3_1, gt_s4_1, gt_acpy, gt_icmp, gt_aload_n, gt_rfk, gt_get_r, gt_get_i, gt_get_z, gt_iaload, Option.toList, List.cons_append, List.nil_append, Nat.add_zero, ka0_0, ra0_0_0, ka0_1, la0_1, (show Int32.toNatClampNeg 2 = 2 from rfl)]
  refine ⟨fun c_5 => ?_, fun c_5 => ?_⟩
  · replace h := gw_ifp h c_5
    refine hK _ _ _ _ _ _ _ ?_
    rw [fdX11_want_35]
    simp only [gt_nil, true_and, eq_self, gt_iconst, gt_iret, gt_retz, bkX11_want_35, ka0_0, ra0_0_0, ka0_1, la0_1, (show Int32.toNatClampNeg 2 = 2 from rfl)]
    obtain ⟨rfl, rfl⟩ := gw_inj2 h
    exact ⟨(Or.inl rfl), hcc, hss, hq (Or.inl rfl)⟩
  · replace h := gw_ifn h c_5
    obtain ⟨r_6, e_8, h⟩ := gw_bnd h
    refine ⟨rfl, 0, 0, hcc, hss, ok_X11_isIn e_8 ?_⟩
    intro hbr_6
    simp only [gt_nil, true_and, eq_self, gt_if, gt_iload_n, gt_ink, gw_nth, gt_iconst, gt_icmp, gt_aload_n, gt_rfk, gt_get_r, gt_get_i, gt_get_z, gt_iaload, Option.toList, List.cons_append, List.nil_append, Nat.add_zero, ka0_0, ra0_0_0, ka0_1, la0_1, (show Int32.toNatClampNeg 2 = 2 from rfl)]
    refine ⟨fun c_10 => ?_, fun c_10 => ?_⟩
    · replace h := gw_ifp h c_10
      refine hK _ _ _ _ _ _ _ ?_
      rw [fdX11_want_35]
      simp only [gt_nil, true_and, eq_self, gt_iconst, gt_iret, gt_retz, bkX11_want_35, ka0_0, ra0_0_0, ka0_1, la0_1, (show Int32.toNatClampNeg 2 = 2 from rfl)]
      obtain ⟨rfl, rfl⟩ := gw_inj2 h
      exact ⟨(Or.inl rfl), hcc, hss, hq (Or.inl rfl)⟩
    · replace h := gw_ifn h c_10
      refine ⟨fun c_11 => ?_, fun c_11 => ?_⟩
      · replace h := gw_ifp2 (gw_c2_ne _ _) h c_11
        exact B_X11_want_37 hcc hss hK hS0 h hq
      · replace h := gw_ifn2 (gw_c2_ne _ _) h c_11
        refine ⟨(⟨by decide, by decide⟩ : gw_in 2 20813), ?_⟩
        refine ⟨fun c_12 => ?_, fun c_12 => ?_⟩
        · replace h := gw_ifp2 (gw_c2_ne _ _) h c_12
          exact B_X11_want_37 hcc hss hK hS0 h hq
        · replace h := gw_ifn2 (gw_c2_ne _ _) h c_12
          refine hK _ _ _ _ _ _ _ ?_
          rw [fdX11_want_35]
          simp only [gt_nil, true_and, eq_self, gt_iconst, gt_iret, gt_retz, bkX11_want_35, ka0_0, ra0_0_0, ka0_1, la0_1, (show Int32.toNatClampNeg 2 = 2 from rfl)]
          obtain ⟨rfl, rfl⟩ := gw_inj2 h
          exact ⟨(Or.inl rfl), hcc, hss, hq (Or.inl rfl)⟩
def F_X11_touch_34 (n0 : Nat) (a0 : Nat) (v1 : Int32) (v2 : Int32) (v3 : Int32) (μ : gw_M) : Option (Int32 × gw_M) := (F_X11_keep n0 a0 μ).bind (fun (μ_2 : gw_M) => (gw_bi (F_X11_touchNow n0 a0 v1 v2 v3 μ_2) (fun (r_5 : Int32) (μ_6 : gw_M) => (F_X11_dealOut n0 a0 μ_6).bind (fun (μ_10 : gw_M) => some (r_5, μ_10)))))
def F_X11_touch (n0 : Nat) (a0 : Nat) (v1 : Int32) (v2 : Int32) (v3 : Int32) (μ : gw_M) : Option (Int32 × gw_M) := (F_X11_isPage n0 v1 μ).bind (fun (r_1 : Int32) => (if r_1 = 0 then some ((-1), μ) else (F_X11_isIn n0 v2 0 2 μ).bind (fun (r_6 : Int32) => (if r_6 = 0 then some ((-1), μ) else (if ¬ v2 = 1 then F_X11_touch_34 n0 a0 v1 v2 v3 μ else (F_X11_isIn n0 v3 0 9999 μ).bind (fun (r_12 : Int32) => (if ¬ r_12 = 0 then F_X11_touch_34 n0 a0 v1 v2 v3 μ else some ((-1), μ))))))))
theorem B_X11_touch_34 {l : Launch} {x : gw_C} {d : Nat} {S : gw_S} {Q : Option Value → gw_S → gw_M → Prop} {K : Nat → gw_Kt} {mc ms cc ss : Nat} (hcc : cc ≤ mc) (hss : ss ≤ ms) (hK : gw_cl l x (d + 11) mc ms bsX11_touch Q K) {a0 : Nat} (hS0 : gw_sh S 11 a0) {n0 : Nat} {v1 v2 v3} {u4 : Value} {μ : gw_M} {r μ'} (h : F_X11_touch_34 n0 a0 v1 v2 v3 μ = some (r, μ')) (hq : Q (some (.int r)) S μ') : K 34 [.ref a0, .int v1, .int v2, .int v3, u4] [] S μ cc ss := by
  have ka0_0 : gw_kd S a0 = 11 := (hS0 0 _ rfl).1
  unfold F_X11_touch_34 at h
  refine hK _ _ _ _ _ _ _ ?_
  rw [fdX11_touch_34]
  simp only [gt_nil, true_and, eq_self, gt_aload_n, gt_rfk, gw_nth, gt_v0, gt_v1, gt_v2, gt_v3, gt_v4, gt_v5, gt_iload_n, gt_ink, gt_istore, gw_set, gt_iload, gt_iret, gt_retz, bkX11_touch_34, ka0_0]
  obtain ⟨μ_2, e_3, h⟩ := gw_bnd h
  refine ⟨rfl, 0, 0, hcc, hss, ok_X11_keep hS0 e_3 ?_⟩
  simp only [gt_nil, true_and, eq_self, gt_aload_n, gt_rfk, gw_nth, gt_iload_n, gt_ink, gt_v0, gt_v1, gt_v2, gt_v3, gt_v4, gt_v5, gt_istore, gw_set, gt_iload, gt_iret, gt_retz, Option.toList, List.cons_append, List.nil_append, Nat.add_zero, ka0_0]
  obtain ⟨r_5, μ_6, e_7, h⟩ := gw_bnd2 h
  refine ⟨rfl, 0, 0, hcc, hss, ok_X11_touchNow hS0 e_7 ?_⟩
  simp only [gt_nil, true_and, eq_self, gt_istore, gw_set, gt_aload_n, gt_rfk, gw_nth, gt_v0, gt_v1, gt_v2, gt_v3, gt_v4, gt_v5, gt_iload, gt_ink, gt_iret, gt_retz, Option.toList, List.cons_append, List.nil_append, Nat.add_zero, ka0_0]
  obtain ⟨μ_10, e_11, h⟩ := gw_bnd h
  refine ⟨rfl, 0, 0, hcc, hss, ok_X11_dealOut hS0 e_11 ?_⟩
  simp only [gt_nil, true_and, eq_self, gt_iload, gt_ink, gw_nth, gt_iret, gt_retz, Option.toList, List.cons_append, List.nil_append, Nat.add_zero, ka0_0]
  obtain ⟨rfl, rfl⟩ := gw_inj2 h
  exact ⟨hcc, hss, hq⟩
theorem ok_X11_touch {l : Launch} {x : gw_C} {d : Nat} {S : gw_S} {Q : Option Value → gw_S → gw_M → Prop} {v1 v2 v3 : Int32} {a0 : Nat} {n0 : Nat} {μ : gw_M} {r μ'} (hS0 : gw_sh S 11 a0) (h : F_X11_touch n0 a0 v1 v2 v3 μ = some (r, μ')) (hq : Q (some (.int r)) S μ') : gw_ok l x (d + 12) sgX11_touch 0 0 [.ref a0, .int v1, .int v2, .int v3] S μ Q := by
  refine gw_ok_of stX11_touch (lv0 := [.ref a0, .int v1, .int v2, .int v3, .retAddr 0]) (Nat.le_of_ble_eq_true rfl) rfl rfl ?_
  intro K hK
  have hcc : 0 ≤ 0 := Nat.zero_le _
  have hss : 0 ≤ 0 := Nat.zero_le _
  unfold F_X11_touch at h
  refine hK _ _ _ _ _ _ _ ?_
  rw [fdX11_touch_0]
  simp only [gt_nil, true_and, eq_self, gt_iload_n, gt_ink, gw_nth, gt_s1_0, gt_s2_0, gt_s3_0, gt_s4_0, gt_s1_1, gt_s2_1, gt_s3_1, gt_s4_1, gt_acpy, gt_if, gt_iconst, gt_icmp, gt_sipush, bkX11_touch_0]
  obtain ⟨r_1, e_3, h⟩ := gw_bnd h
  refine ⟨rfl, 0, 0, hcc, hss, ok_X11_isPage e_3 ?_⟩
  intro hbr_1
  simp only [gt_nil, true_and, eq_self, gt_if, gt_iload_n, gt_ink, gw_nth, gt_iconst, gt_s1_0, gt_s2_0, gt_s3_0, gt_s4_0, gt_s1_1, gt_s2_1, gt_s3_1, gt_s4_1, gt_acpy, gt_icmp, gt_sipush, Option.toList, List.cons_append, List.nil_append, Nat.add_zero]
  refine ⟨fun c_5 => ?_, fun c_5 => ?_⟩
  · replace h := gw_ifp h c_5
    refine hK _ _ _ _ _ _ _ ?_
    rw [fdX11_touch_32]
    simp only [gt_nil, true_and, eq_self, gt_iconst, gt_iret, gt_retz, bkX11_touch_32]
    obtain ⟨rfl, rfl⟩ := gw_inj2 h
    exact ⟨hcc, hss, hq⟩
  · replace h := gw_ifn h c_5
    obtain ⟨r_6, e_8, h⟩ := gw_bnd h
    refine ⟨rfl, 0, 0, hcc, hss, ok_X11_isIn e_8 ?_⟩
    intro hbr_6
    simp only [gt_nil, true_and, eq_self, gt_if, gt_iload_n, gt_ink, gw_nth, gt_iconst, gt_icmp, gt_sipush, gt_s1_0, gt_s2_0, gt_s3_0, gt_s4_0, gt_s1_1, gt_s2_1, gt_s3_1, gt_s4_1, gt_acpy, Option.toList, List.cons_append, List.nil_append, Nat.add_zero]
    refine ⟨fun c_10 => ?_, fun c_10 => ?_⟩
    · replace h := gw_ifp h c_10
      refine hK _ _ _ _ _ _ _ ?_
      rw [fdX11_touch_32]
      simp only [gt_nil, true_and, eq_self, gt_iconst, gt_iret, gt_retz, bkX11_touch_32]
      obtain ⟨rfl, rfl⟩ := gw_inj2 h
      exact ⟨hcc, hss, hq⟩
    · replace h := gw_ifn h c_10
      refine ⟨fun c_11 => ?_, fun c_11 => ?_⟩
      · replace h := gw_ifp2 (gw_c2_ne _ _) h c_11
        exact B_X11_touch_34 hcc hss hK hS0 h hq
      · replace h := gw_ifn2 (gw_c2_ne _ _) h c_11
        obtain ⟨r_12, e_14, h⟩ := gw_bnd h
        refine ⟨rfl, 0, 0, hcc, hss, ok_X11_isIn e_14 ?_⟩
        intro hbr_12
        simp only [gt_nil, true_and, eq_self, gt_if, Option.toList, List.cons_append, List.nil_append, Nat.add_zero]
        refine ⟨fun c_16 => ?_, fun c_16 => ?_⟩
        · replace h := gw_ifp h c_16
          exact B_X11_touch_34 hcc hss hK hS0 h hq
        · replace h := gw_ifn h c_16
          refine hK _ _ _ _ _ _ _ ?_
          rw [fdX11_touch_32]
          simp only [gt_nil, true_and, eq_self, gt_iconst, gt_iret, gt_retz, bkX11_touch_32]
          obtain ⟨rfl, rfl⟩ := gw_inj2 h
          exact ⟨hcc, hss, hq⟩
def F_X11_event (n0 : Nat) (a0 : Nat) (v1 : Int32) (μ : gw_M) : Option (Int32 × gw_M) := (F_X11_isIn n0 v1 0 7 μ).bind (fun (r_1 : Int32) => (if ¬ r_1 = 0 then (F_X11_keep n0 a0 μ).bind (fun (μ_7 : gw_M) => (gw_bi (F_X11_eventNow n0 a0 v1 μ_7) (fun (r_10 : Int32) (μ_11 : gw_M) => (F_X11_dealOut n0 a0 μ_11).bind (fun (μ_15 : gw_M) => some (r_10, μ_15))))) else some ((-1), μ)))
theorem ok_X11_event {l : Launch} {x : gw_C} {d : Nat} {S : gw_S} {Q : Option Value → gw_S → gw_M → Prop} {v1 : Int32} {a0 : Nat} {n0 : Nat} {μ : gw_M} {r μ'} (hS0 : gw_sh S 11 a0) (h : F_X11_event n0 a0 v1 μ = some (r, μ')) (hq : Q (some (.int r)) S μ') : gw_ok l x (d + 5) sgX11_event 0 0 [.ref a0, .int v1] S μ Q := by
  refine gw_ok_of stX11_event (lv0 := [.ref a0, .int v1, .retAddr 0]) (Nat.le_of_ble_eq_true rfl) rfl rfl ?_
  intro K hK
  have hcc : 0 ≤ 0 := Nat.zero_le _
  have hss : 0 ≤ 0 := Nat.zero_le _
  have ka0_0 : gw_kd S a0 = 11 := (hS0 0 _ rfl).1
  unfold F_X11_event at h
  refine hK _ _ _ _ _ _ _ ?_
  rw [fdX11_event_0]
  simp only [gt_nil, true_and, eq_self, gt_iload_n, gt_ink, gw_nth, gt_iconst, gt_bipush, gt_s1_0, gt_s2_0, gt_s3_0, gt_s4_0, gt_s1_1, gt_s2_1, gt_s3_1, gt_s4_1, gt_acpy, gt_if, gt_iret, gt_retz, bkX11_event_0, ka0_0]
  obtain ⟨r_1, e_3, h⟩ := gw_bnd h
  refine ⟨rfl, 0, 0, hcc, hss, ok_X11_isIn e_3 ?_⟩
  intro hbr_1
  simp only [gt_nil, true_and, eq_self, gt_if, gt_iconst, gt_iret, gt_retz, Option.toList, List.cons_append, List.nil_append, Nat.add_zero, ka0_0]
  refine ⟨fun c_5 => ?_, fun c_5 => ?_⟩
  · replace h := gw_ifp h c_5
    refine hK _ _ _ _ _ _ _ ?_
    rw [fdX11_event_12]
    simp only [gt_nil, true_and, eq_self, gt_aload_n, gt_rfk, gw_nth, gt_v0, gt_v1, gt_v2, gt_v3, gt_v4, gt_v5, gt_iload_n, gt_ink, gt_istore_n, gw_set, gt_iret, gt_retz, bkX11_event_12, ka0_0]
    obtain ⟨μ_7, e_8, h⟩ := gw_bnd h
    refine ⟨rfl, 0, 0, hcc, hss, ok_X11_keep hS0 e_8 ?_⟩
    simp only [gt_nil, true_and, eq_self, gt_aload_n, gt_rfk, gw_nth, gt_iload_n, gt_ink, gt_v0, gt_v1, gt_v2, gt_v3, gt_v4, gt_v5, gt_istore_n, gw_set, gt_iret, gt_retz, Option.toList, List.cons_append, List.nil_append, Nat.add_zero, ka0_0]
    obtain ⟨r_10, μ_11, e_12, h⟩ := gw_bnd2 h
    refine ⟨rfl, 0, 0, hcc, hss, ok_X11_eventNow hS0 e_12 ?_⟩
    simp only [gt_nil, true_and, eq_self, gt_istore_n, gw_set, gt_aload_n, gt_rfk, gw_nth, gt_v0, gt_v1, gt_v2, gt_v3, gt_v4, gt_v5, gt_iload_n, gt_ink, gt_iret, gt_retz, Option.toList, List.cons_append, List.nil_append, Nat.add_zero, ka0_0]
    obtain ⟨μ_15, e_16, h⟩ := gw_bnd h
    refine ⟨rfl, 0, 0, hcc, hss, ok_X11_dealOut hS0 e_16 ?_⟩
    simp only [gt_nil, true_and, eq_self, gt_iload_n, gt_ink, gw_nth, gt_iret, gt_retz, Option.toList, List.cons_append, List.nil_append, Nat.add_zero, ka0_0]
    obtain ⟨rfl, rfl⟩ := gw_inj2 h
    exact ⟨hcc, hss, hq⟩
  · replace h := gw_ifn h c_5
    obtain ⟨rfl, rfl⟩ := gw_inj2 h
    exact ⟨hcc, hss, hq⟩
def F_X11_enter (n0 : Nat) (a0 : Nat) (μ : gw_M) : Option (Int32 × gw_M) := (if ¬ (μ (a0 + 1) 2) = 2 then (F_X11_keep n0 a0 μ).bind (fun (μ_3 : gw_M) => (F_X11_enterNow n0 a0 μ_3).bind (fun (μ_7 : gw_M) => (F_X11_dealOut n0 a0 μ_7).bind (fun (μ_11 : gw_M) => some (1, μ_11)))) else some (0, μ))
theorem ok_X11_enter {l : Launch} {x : gw_C} {d : Nat} {S : gw_S} {Q : Option Value → gw_S → gw_M → Prop} {a0 : Nat} {n0 : Nat} {μ : gw_M} {r μ'} (hS0 : gw_sh S 11 a0) (h : F_X11_enter n0 a0 μ = some (r, μ')) (hq : ((r = 0 ∨ r = 1) → Q (some (.int r)) S μ')) : gw_ok l x (d + 5) sgX11_enter 0 0 [.ref a0] S μ Q := by
  refine gw_ok_of stX11_enter (lv0 := [.ref a0]) (Nat.le_of_ble_eq_true rfl) rfl rfl ?_
  intro K hK
  have hcc : 0 ≤ 0 := Nat.zero_le _
  have hss : 0 ≤ 0 := Nat.zero_le _
  have ka0_0 : gw_kd S a0 = 11 := (hS0 0 _ rfl).1
  have ra0_0_0 : gw_rf S a0 0 = a0 + 1 := (hS0 0 _ rfl).2.2 (0, 1) (by decide)
  have ka0_1 : gw_kd S (a0 + 1) = 12 := (hS0 1 _ rfl).1
  have la0_1 : gw_ln S (a0 + 1) = 20813 := (hS0 1 _ rfl).2.1
  unfold F_X11_enter at h
  refine hK _ _ _ _ _ _ _ ?_
  rw [fdX11_enter_0]
  simp only [gt_nil, true_and, eq_self, gt_aload_n, gt_rfk, gw_nth, gt_get_r, gt_get_i, gt_get_z, gt_iconst, gt_iaload, gt_icmp, gt_iret, gt_retz, bkX11_enter_0, ka0_0, ra0_0_0, ka0_1, la0_1, (show Int32.toNatClampNeg 2 = 2 from rfl)]
  refine ⟨(⟨by decide, by decide⟩ : gw_in 2 20813), ?_⟩
  refine ⟨fun c_1 => ?_, fun c_1 => ?_⟩
  · replace h := gw_ifp2 (gw_c2_ne _ _) h c_1
    refine hK _ _ _ _ _ _ _ ?_
    rw [fdX11_enter_12]
    simp only [gt_nil, true_and, eq_self, gt_aload_n, gt_rfk, gw_nth, gt_v0, gt_v1, gt_v2, gt_v3, gt_v4, gt_v5, gt_iconst, gt_iret, gt_retz, bkX11_enter_12, ka0_0, ra0_0_0, ka0_1, la0_1, (show Int32.toNatClampNeg 2 = 2 from rfl)]
    obtain ⟨μ_3, e_4, h⟩ := gw_bnd h
    refine ⟨rfl, 0, 0, hcc, hss, ok_X11_keep hS0 e_4 ?_⟩
    simp only [gt_nil, true_and, eq_self, gt_aload_n, gt_rfk, gw_nth, gt_v0, gt_v1, gt_v2, gt_v3, gt_v4, gt_v5, gt_iconst, gt_iret, gt_retz, Option.toList, List.cons_append, List.nil_append, Nat.add_zero, ka0_0, ra0_0_0, ka0_1, la0_1, (show Int32.toNatClampNeg 2 = 2 from rfl)]
    obtain ⟨μ_7, e_8, h⟩ := gw_bnd h
    refine ⟨rfl, 0, 0, hcc, hss, ok_X11_enterNow hS0 e_8 ?_⟩
    simp only [gt_nil, true_and, eq_self, gt_aload_n, gt_rfk, gw_nth, gt_v0, gt_v1, gt_v2, gt_v3, gt_v4, gt_v5, gt_iconst, gt_iret, gt_retz, Option.toList, List.cons_append, List.nil_append, Nat.add_zero, ka0_0, ra0_0_0, ka0_1, la0_1, (show Int32.toNatClampNeg 2 = 2 from rfl)]
    obtain ⟨μ_11, e_12, h⟩ := gw_bnd h
    refine ⟨rfl, 0, 0, hcc, hss, ok_X11_dealOut hS0 e_12 ?_⟩
    simp only [gt_nil, true_and, eq_self, gt_iconst, gt_iret, gt_retz, Option.toList, List.cons_append, List.nil_append, Nat.add_zero, ka0_0, ra0_0_0, ka0_1, la0_1, (show Int32.toNatClampNeg 2 = 2 from rfl)]
    obtain ⟨rfl, rfl⟩ := gw_inj2 h
    exact ⟨(Or.inr rfl), hcc, hss, hq (Or.inr rfl)⟩
  · replace h := gw_ifn2 (gw_c2_ne _ _) h c_1
    obtain ⟨rfl, rfl⟩ := gw_inj2 h
    exact ⟨(Or.inl rfl), hcc, hss, hq (Or.inl rfl)⟩
def F_X11_send_32 (n0 : Nat) (a0 : Nat) (v1 : Int32) (v2 : Int32) (μ : gw_M) : Option (Int32 × gw_M) := (F_X11_guestAt n0 a0 v1 μ).bind (fun (r_1 : Int32) => (if 0 ≤ (r_1 + (0 : Int32)) ∧ (r_1 + (0 : Int32)).toNatClampNeg < 20813 then (F_X11_has n0 (μ (a0 + 1) (r_1 + (0 : Int32)).toNatClampNeg) v2 μ).bind (fun (r_6 : Int32) => (if r_6 = 0 then (F_X11_keep n0 a0 μ).bind (fun (μ_12 : gw_M) => (F_X11_pend n0 a0 v1 v2 μ_12).bind (fun (μ_16 : gw_M) => (F_X11_dealOut n0 a0 μ_16).bind (fun (μ_20 : gw_M) => some (1, μ_20)))) else some (0, μ))) else none))
def F_X11_send (n0 : Nat) (a0 : Nat) (v1 : Int32) (v2 : Int32) (μ : gw_M) : Option (Int32 × gw_M) := (F_X11_isGuest n0 v1 μ).bind (fun (r_1 : Int32) => (if r_1 = 0 then some (0, μ) else (F_X11_isIn n0 v2 0 15 μ).bind (fun (r_6 : Int32) => (if r_6 = 0 then some (0, μ) else (if ¬ v1 = 2 then F_X11_send_32 n0 a0 v1 v2 μ else (if (μ (a0 + 1) 2) = 2 then some (0, μ) else F_X11_send_32 n0 a0 v1 v2 μ))))))
theorem B_X11_send_32 {l : Launch} {x : gw_C} {d : Nat} {S : gw_S} {Q : Option Value → gw_S → gw_M → Prop} {K : Nat → gw_Kt} {mc ms cc ss : Nat} (hcc : cc ≤ mc) (hss : ss ≤ ms) (hK : gw_cl l x (d + 4) mc ms bsX11_send Q K) {a0 : Nat} (hS0 : gw_sh S 11 a0) {n0 : Nat} {v1 v2} {μ : gw_M} {r μ'} (h : F_X11_send_32 n0 a0 v1 v2 μ = some (r, μ')) (hq : ((r = 0 ∨ r = 1) → Q (some (.int r)) S μ')) : K 32 [.ref a0, .int v1, .int v2] [] S μ cc ss := by
  have ka0_0 : gw_kd S a0 = 11 := (hS0 0 _ rfl).1
  have ra0_0_0 : gw_rf S a0 0 = a0 + 1 := (hS0 0 _ rfl).2.2 (0, 1) (by decide)
  have ka0_1 : gw_kd S (a0 + 1) = 12 := (hS0 1 _ rfl).1
  have la0_1 : gw_ln S (a0 + 1) = 20813 := (hS0 1 _ rfl).2.1
  unfold F_X11_send_32 at h
  refine hK _ _ _ _ _ _ _ ?_
  rw [fdX11_send_32]
  simp only [gt_nil, true_and, eq_self, gt_aload_n, gt_rfk, gw_nth, gt_get_r, gt_get_i, gt_get_z, gt_iload_n, gt_ink, gt_v0, gt_v1, gt_v2, gt_v3, gt_v4, gt_v5, gt_iconst, gt_iadd, gt_iaload, gt_s1_0, gt_s2_0, gt_s3_0, gt_s4_0, gt_s1_1, gt_s2_1, gt_s3_1, gt_s4_1, gt_acpy, gt_if, bkX11_send_32, ka0_0, ra0_0_0, ka0_1, la0_1]
  obtain ⟨r_1, e_3, h⟩ := gw_bnd h
  refine ⟨rfl, 0, 0, hcc, hss, ok_X11_guestAt hS0 e_3 ?_⟩
  simp only [gt_nil, true_and, eq_self, gt_iconst, gt_iadd, gt_iaload, gt_iload_n, gt_ink, gw_nth, gt_s1_0, gt_s2_0, gt_s3_0, gt_s4_0, gt_s1_1, gt_s2_1, gt_s3_1, gt_s4_1, gt_acpy, gt_if, Option.toList, List.cons_append, List.nil_append, Nat.add_zero, ka0_0, ra0_0_0, ka0_1, la0_1]
  obtain ⟨c_5, h⟩ := gw_ife h
  refine ⟨c_5, ?_⟩
  obtain ⟨r_6, e_8, h⟩ := gw_bnd h
  refine ⟨rfl, 0, 0, hcc, hss, ok_X11_has e_8 ?_⟩
  intro hbr_6
  simp only [gt_nil, true_and, eq_self, gt_if, Option.toList, List.cons_append, List.nil_append, Nat.add_zero, ka0_0, ra0_0_0, ka0_1, la0_1]
  refine ⟨fun c_10 => ?_, fun c_10 => ?_⟩
  · replace h := gw_ifp h c_10
    refine hK _ _ _ _ _ _ _ ?_
    rw [fdX11_send_53]
    simp only [gt_nil, true_and, eq_self, gt_aload_n, gt_rfk, gw_nth, gt_v0, gt_v1, gt_v2, gt_v3, gt_v4, gt_v5, gt_iload_n, gt_ink, gt_iconst, gt_iret, gt_retz, bkX11_send_53, ka0_0, ra0_0_0, ka0_1, la0_1]
    obtain ⟨μ_12, e_13, h⟩ := gw_bnd h
    refine ⟨rfl, 0, 0, hcc, hss, ok_X11_keep hS0 e_13 ?_⟩
    simp only [gt_nil, true_and, eq_self, gt_aload_n, gt_rfk, gw_nth, gt_iload_n, gt_ink, gt_v0, gt_v1, gt_v2, gt_v3, gt_v4, gt_v5, gt_iconst, gt_iret, gt_retz, Option.toList, List.cons_append, List.nil_append, Nat.add_zero, ka0_0, ra0_0_0, ka0_1, la0_1]
    obtain ⟨μ_16, e_17, h⟩ := gw_bnd h
    refine ⟨rfl, 0, 0, hcc, hss, ok_X11_pend hS0 e_17 ?_⟩
    simp only [gt_nil, true_and, eq_self, gt_aload_n, gt_rfk, gw_nth, gt_v0, gt_v1, gt_v2, gt_v3, gt_v4, gt_v5, gt_iconst, gt_iret, gt_retz, Option.toList, List.cons_append, List.nil_append, Nat.add_zero, ka0_0, ra0_0_0, ka0_1, la0_1]
    obtain ⟨μ_20, e_21, h⟩ := gw_bnd h
    refine ⟨rfl, 0, 0, hcc, hss, ok_X11_dealOut hS0 e_21 ?_⟩
    simp only [gt_nil, true_and, eq_self, gt_iconst, gt_iret, gt_retz, Option.toList, List.cons_append, List.nil_append, Nat.add_zero, ka0_0, ra0_0_0, ka0_1, la0_1]
    obtain ⟨rfl, rfl⟩ := gw_inj2 h
    exact ⟨(Or.inr rfl), hcc, hss, hq (Or.inr rfl)⟩
  · replace h := gw_ifn h c_10
    refine hK _ _ _ _ _ _ _ ?_
    rw [fdX11_send_51]
    simp only [gt_nil, true_and, eq_self, gt_iconst, gt_iret, gt_retz, bkX11_send_51, ka0_0, ra0_0_0, ka0_1, la0_1]
    obtain ⟨rfl, rfl⟩ := gw_inj2 h
    exact ⟨(Or.inl rfl), hcc, hss, hq (Or.inl rfl)⟩
theorem ok_X11_send {l : Launch} {x : gw_C} {d : Nat} {S : gw_S} {Q : Option Value → gw_S → gw_M → Prop} {v1 v2 : Int32} {a0 : Nat} {n0 : Nat} {μ : gw_M} {r μ'} (hS0 : gw_sh S 11 a0) (h : F_X11_send n0 a0 v1 v2 μ = some (r, μ')) (hq : ((r = 0 ∨ r = 1) → Q (some (.int r)) S μ')) : gw_ok l x (d + 5) sgX11_send 0 0 [.ref a0, .int v1, .int v2] S μ Q := by
  refine gw_ok_of stX11_send (lv0 := [.ref a0, .int v1, .int v2]) (Nat.le_of_ble_eq_true rfl) rfl rfl ?_
  intro K hK
  have hcc : 0 ≤ 0 := Nat.zero_le _
  have hss : 0 ≤ 0 := Nat.zero_le _
  have ka0_0 : gw_kd S a0 = 11 := (hS0 0 _ rfl).1
  have ra0_0_0 : gw_rf S a0 0 = a0 + 1 := (hS0 0 _ rfl).2.2 (0, 1) (by decide)
  have ka0_1 : gw_kd S (a0 + 1) = 12 := (hS0 1 _ rfl).1
  have la0_1 : gw_ln S (a0 + 1) = 20813 := (hS0 1 _ rfl).2.1
  unfold F_X11_send at h
  refine hK _ _ _ _ _ _ _ ?_
  rw [fdX11_send_0]
  simp only [gt_nil, true_and, eq_self, gt_iload_n, gt_ink, gw_nth, gt_s1_0, gt_s2_0, gt_s3_0, gt_s4_0, gt_s1_1, gt_s2_1, gt_s3_1, gt_s4_1, gt_acpy, gt_if, gt_iconst, gt_bipush, gt_icmp, gt_aload_n, gt_rfk, gt_get_r, gt_get_i, gt_get_z, gt_iaload, bkX11_send_0, ka0_0, ra0_0_0, ka0_1, la0_1, (show Int32.toNatClampNeg 2 = 2 from rfl)]
  obtain ⟨r_1, e_3, h⟩ := gw_bnd h
  refine ⟨rfl, 0, 0, hcc, hss, ok_X11_isGuest e_3 ?_⟩
  intro hbr_1
  simp only [gt_nil, true_and, eq_self, gt_if, gt_iload_n, gt_ink, gw_nth, gt_iconst, gt_bipush, gt_s1_0, gt_s2_0, gt_s3_0, gt_s4_0, gt_s1_1, gt_s2_1, gt_s3_1, gt_s4_1, gt_acpy, gt_icmp, gt_aload_n, gt_rfk, gt_get_r, gt_get_i, gt_get_z, gt_iaload, Option.toList, List.cons_append, List.nil_append, Nat.add_zero, ka0_0, ra0_0_0, ka0_1, la0_1, (show Int32.toNatClampNeg 2 = 2 from rfl)]
  refine ⟨fun c_5 => ?_, fun c_5 => ?_⟩
  · replace h := gw_ifp h c_5
    refine hK _ _ _ _ _ _ _ ?_
    rw [fdX11_send_51]
    simp only [gt_nil, true_and, eq_self, gt_iconst, gt_iret, gt_retz, bkX11_send_51, ka0_0, ra0_0_0, ka0_1, la0_1, (show Int32.toNatClampNeg 2 = 2 from rfl)]
    obtain ⟨rfl, rfl⟩ := gw_inj2 h
    exact ⟨(Or.inl rfl), hcc, hss, hq (Or.inl rfl)⟩
  · replace h := gw_ifn h c_5
    obtain ⟨r_6, e_8, h⟩ := gw_bnd h
    refine ⟨rfl, 0, 0, hcc, hss, ok_X11_isIn e_8 ?_⟩
    intro hbr_6
    simp only [gt_nil, true_and, eq_self, gt_if, gt_iload_n, gt_ink, gw_nth, gt_iconst, gt_icmp, gt_aload_n, gt_rfk, gt_get_r, gt_get_i, gt_get_z, gt_iaload, Option.toList, List.cons_append, List.nil_append, Nat.add_zero, ka0_0, ra0_0_0, ka0_1, la0_1, (show Int32.toNatClampNeg 2 = 2 from rfl)]
    refine ⟨fun c_10 => ?_, fun c_10 => ?_⟩
    · replace h := gw_ifp h c_10
      refine hK _ _ _ _ _ _ _ ?_
      rw [fdX11_send_51]
      simp only [gt_nil, true_and, eq_self, gt_iconst, gt_iret, gt_retz, bkX11_send_51, ka0_0, ra0_0_0, ka0_1, la0_1, (show Int32.toNatClampNeg 2 = 2 from rfl)]
      obtain ⟨rfl, rfl⟩ := gw_inj2 h
      exact ⟨(Or.inl rfl), hcc, hss, hq (Or.inl rfl)⟩
    · replace h := gw_ifn h c_10
      refine ⟨fun c_11 => ?_, fun c_11 => ?_⟩
      · replace h := gw_ifp2 (gw_c2_ne _ _) h c_11
        exact B_X11_send_32 hcc hss hK hS0 h hq
      · replace h := gw_ifn2 (gw_c2_ne _ _) h c_11
        refine ⟨(⟨by decide, by decide⟩ : gw_in 2 20813), ?_⟩
        refine ⟨fun c_12 => ?_, fun c_12 => ?_⟩
        · replace h := gw_ifp2 (gw_c2_eq _ _) h c_12
          refine hK _ _ _ _ _ _ _ ?_
          rw [fdX11_send_51]
          simp only [gt_nil, true_and, eq_self, gt_iconst, gt_iret, gt_retz, bkX11_send_51, ka0_0, ra0_0_0, ka0_1, la0_1, (show Int32.toNatClampNeg 2 = 2 from rfl)]
          obtain ⟨rfl, rfl⟩ := gw_inj2 h
          exact ⟨(Or.inl rfl), hcc, hss, hq (Or.inl rfl)⟩
        · replace h := gw_ifn2 (gw_c2_eq _ _) h c_12
          exact B_X11_send_32 hcc hss hK hS0 h hq
def F_X11_open_33 (n0 : Nat) (a0 : Nat) (s1 : Int32) (s2 : Int32) (μ : gw_M) : Option (Int32 × gw_M) := (if 0 ≤ s1 ∧ s1.toNatClampNeg < 20813 then gw_let (gw_up μ (a0 + 1) s1.toNatClampNeg s2) (fun (μ_2 : gw_M) => (F_X11_dealOut n0 a0 μ_2).bind (fun (μ_4 : gw_M) => some (1, μ_4))) else none)
def F_X11_open (n0 : Nat) (a0 : Nat) (v1 : Int32) (v2 : Int32) (μ : gw_M) : Option (Int32 × gw_M) := (F_X11_isGuest n0 v1 μ).bind (fun (r_1 : Int32) => (if ¬ r_1 = 0 then (F_X11_keep n0 a0 μ).bind (fun (μ_7 : gw_M) => (F_X11_guestAt n0 a0 v1 μ_7).bind (fun (r_10 : Int32) => (if v2 = 0 then F_X11_open_33 n0 a0 (r_10 + (2 : Int32)) 0 μ_7 else F_X11_open_33 n0 a0 (r_10 + (2 : Int32)) 1 μ_7))) else some (0, μ)))
theorem B_X11_open_33 {l : Launch} {x : gw_C} {d : Nat} {S : gw_S} {Q : Option Value → gw_S → gw_M → Prop} {K : Nat → gw_Kt} {mc ms cc ss : Nat} (hcc : cc ≤ mc) (hss : ss ≤ ms) (hK : gw_cl l x (d + 4) mc ms bsX11_open Q K) {a0 : Nat} (hS0 : gw_sh S 11 a0) {n0 : Nat} {s1 s2} {u1 u2 : Value} {μ : gw_M} {r μ'} (h : F_X11_open_33 n0 a0 s1 s2 μ = some (r, μ')) (hq : ((r = 0 ∨ r = 1) → Q (some (.int r)) S μ')) : K 33 [.ref a0, u1, u2] [.int s2, .int s1, .ref (a0 + 1)] S μ cc ss := by
  have ka0_0 : gw_kd S a0 = 11 := (hS0 0 _ rfl).1
  have ka0_1 : gw_kd S (a0 + 1) = 12 := (hS0 1 _ rfl).1
  have la0_1 : gw_ln S (a0 + 1) = 20813 := (hS0 1 _ rfl).2.1
  unfold F_X11_open_33 at h
  refine hK _ _ _ _ _ _ _ ?_
  rw [fdX11_open_33]
  simp only [gt_nil, true_and, eq_self, gt_iastore, gt_aload_n, gt_rfk, gw_nth, gt_v0, gt_v1, gt_v2, gt_v3, gt_v4, gt_v5, gt_iconst, gt_iret, gt_retz, bkX11_open_33, ka0_0, ka0_1, la0_1]
  obtain ⟨c_1, h⟩ := gw_ife h
  refine ⟨c_1, ?_⟩
  obtain ⟨μ_2, hμ_2, h⟩ := gw_lt h
  try rw [← hμ_2]
  obtain ⟨μ_4, e_5, h⟩ := gw_bnd h
  refine ⟨rfl, 0, 0, hcc, hss, ok_X11_dealOut hS0 e_5 ?_⟩
  simp only [gt_nil, true_and, eq_self, gt_iconst, gt_iret, gt_retz, Option.toList, List.cons_append, List.nil_append, Nat.add_zero, ka0_0, ka0_1, la0_1]
  obtain ⟨rfl, rfl⟩ := gw_inj2 h
  exact ⟨(Or.inr rfl), hcc, hss, hq (Or.inr rfl)⟩
theorem ok_X11_open {l : Launch} {x : gw_C} {d : Nat} {S : gw_S} {Q : Option Value → gw_S → gw_M → Prop} {v1 v2 : Int32} {a0 : Nat} {n0 : Nat} {μ : gw_M} {r μ'} (hS0 : gw_sh S 11 a0) (hz2 : v2 = 0 ∨ v2 = 1) (h : F_X11_open n0 a0 v1 v2 μ = some (r, μ')) (hq : ((r = 0 ∨ r = 1) → Q (some (.int r)) S μ')) : gw_ok l x (d + 5) sgX11_open 0 0 [.ref a0, .int v1, .int v2] S μ Q := by
  refine gw_ok_of stX11_open (lv0 := [.ref a0, .int v1, .int v2]) (Nat.le_of_ble_eq_true rfl) rfl rfl ?_
  intro K hK
  have hcc : 0 ≤ 0 := Nat.zero_le _
  have hss : 0 ≤ 0 := Nat.zero_le _
  have ka0_0 : gw_kd S a0 = 11 := (hS0 0 _ rfl).1
  have ra0_0_0 : gw_rf S a0 0 = a0 + 1 := (hS0 0 _ rfl).2.2 (0, 1) (by decide)
  unfold F_X11_open at h
  refine hK _ _ _ _ _ _ _ ?_
  rw [fdX11_open_0]
  simp only [gt_nil, true_and, eq_self, gt_iload_n, gt_ink, gw_nth, gt_s1_0, gt_s2_0, gt_s3_0, gt_s4_0, gt_s1_1, gt_s2_1, gt_s3_1, gt_s4_1, gt_acpy, gt_if, gt_iconst, gt_iret, gt_retz, bkX11_open_0, ka0_0, ra0_0_0]
  obtain ⟨r_1, e_3, h⟩ := gw_bnd h
  refine ⟨rfl, 0, 0, hcc, hss, ok_X11_isGuest e_3 ?_⟩
  intro hbr_1
  simp only [gt_nil, true_and, eq_self, gt_if, gt_iconst, gt_iret, gt_retz, Option.toList, List.cons_append, List.nil_append, Nat.add_zero, ka0_0, ra0_0_0]
  refine ⟨fun c_5 => ?_, fun c_5 => ?_⟩
  · replace h := gw_ifp h c_5
    refine hK _ _ _ _ _ _ _ ?_
    rw [fdX11_open_9]
    simp only [gt_nil, true_and, eq_self, gt_aload_n, gt_rfk, gw_nth, gt_v0, gt_v1, gt_v2, gt_v3, gt_v4, gt_v5, gt_get_r, gt_get_i, gt_get_z, gt_iload_n, gt_ink, gt_iconst, gt_iadd, gt_if, gt_goto, bkX11_open_9, ka0_0, ra0_0_0]
    obtain ⟨μ_7, e_8, h⟩ := gw_bnd h
    refine ⟨rfl, 0, 0, hcc, hss, ok_X11_keep hS0 e_8 ?_⟩
    simp only [gt_nil, true_and, eq_self, gt_aload_n, gt_rfk, gw_nth, gt_get_r, gt_get_i, gt_get_z, gt_iload_n, gt_ink, gt_v0, gt_v1, gt_v2, gt_v3, gt_v4, gt_v5, gt_iconst, gt_iadd, gt_if, gt_goto, Option.toList, List.cons_append, List.nil_append, Nat.add_zero, ka0_0, ra0_0_0]
    obtain ⟨r_10, e_12, h⟩ := gw_bnd h
    refine ⟨rfl, 0, 0, hcc, hss, ok_X11_guestAt hS0 e_12 ?_⟩
    simp only [gt_nil, true_and, eq_self, gt_iconst, gt_iadd, gt_iload_n, gt_ink, gw_nth, gt_if, gt_goto, Option.toList, List.cons_append, List.nil_append, Nat.add_zero, ka0_0, ra0_0_0]
    refine ⟨fun c_14 => ?_, fun c_14 => ?_⟩
    · replace h := gw_ifp h c_14
      refine hK _ _ _ _ _ _ _ ?_
      rw [fdX11_open_32]
      simp only [gt_nil, true_and, eq_self, gt_iconst, bkX11_open_32, ka0_0, ra0_0_0]
      exact B_X11_open_33 hcc hss hK hS0 h hq
    · replace h := gw_ifn h c_14
      exact B_X11_open_33 hcc hss hK hS0 h hq
  · replace h := gw_ifn h c_5
    obtain ⟨rfl, rfl⟩ := gw_inj2 h
    exact ⟨(Or.inl rfl), hcc, hss, hq (Or.inl rfl)⟩
def F_X11_finish (n0 : Nat) (a0 : Nat) (μ : gw_M) : Option (Int32 × gw_M) := (F_X11_guestAt n0 a0 (μ (a0 + 1) 2) μ).bind (fun (r_1 : Int32) => (if 0 ≤ (r_1 + (1 : Int32)) ∧ (r_1 + (1 : Int32)).toNatClampNeg < 20813 then (if ¬ (μ (a0 + 1) (r_1 + (1 : Int32)).toNatClampNeg) = 0 then (F_X11_keep n0 a0 μ).bind (fun (μ_8 : gw_M) => (gw_bi (F_X11_endNow n0 a0 (μ_8 (a0 + 1) 2) μ_8) (fun (r_11 : Int32) (μ_12 : gw_M) => (F_X11_dealOut n0 a0 μ_12).bind (fun (μ_16 : gw_M) => some (r_11, μ_16))))) else some ((-1), μ)) else none))
theorem ok_X11_finish {l : Launch} {x : gw_C} {d : Nat} {S : gw_S} {Q : Option Value → gw_S → gw_M → Prop} {a0 : Nat} {n0 : Nat} {μ : gw_M} {r μ'} (hS0 : gw_sh S 11 a0) (h : F_X11_finish n0 a0 μ = some (r, μ')) (hq : Q (some (.int r)) S μ') : gw_ok l x (d + 5) sgX11_finish 0 0 [.ref a0] S μ Q := by
  refine gw_ok_of stX11_finish (lv0 := [.ref a0, .retAddr 0]) (Nat.le_of_ble_eq_true rfl) rfl rfl ?_
  intro K hK
  have hcc : 0 ≤ 0 := Nat.zero_le _
  have hss : 0 ≤ 0 := Nat.zero_le _
  have ka0_0 : gw_kd S a0 = 11 := (hS0 0 _ rfl).1
  have ra0_0_0 : gw_rf S a0 0 = a0 + 1 := (hS0 0 _ rfl).2.2 (0, 1) (by decide)
  have ka0_1 : gw_kd S (a0 + 1) = 12 := (hS0 1 _ rfl).1
  have la0_1 : gw_ln S (a0 + 1) = 20813 := (hS0 1 _ rfl).2.1
  unfold F_X11_finish at h
  refine hK _ _ _ _ _ _ _ ?_
  rw [fdX11_finish_0]
  simp only [gt_nil, true_and, eq_self, gt_aload_n, gt_rfk, gw_nth, gt_get_r, gt_get_i, gt_get_z, gt_iconst, gt_iaload, gt_v0, gt_v1, gt_v2, gt_v3, gt_v4, gt_v5, gt_iadd, gt_if, gt_iret, gt_retz, bkX11_finish_0, ka0_0, ra0_0_0, ka0_1, la0_1, (show Int32.toNatClampNeg 2 = 2 from rfl)]
  refine ⟨(⟨by decide, by decide⟩ : gw_in 2 20813), ?_⟩
  obtain ⟨r_1, e_3, h⟩ := gw_bnd h
  refine ⟨rfl, 0, 0, hcc, hss, ok_X11_guestAt hS0 e_3 ?_⟩
  simp only [gt_nil, true_and, eq_self, gt_iconst, gt_iadd, gt_iaload, gt_if, gt_iret, gt_retz, Option.toList, List.cons_append, List.nil_append, Nat.add_zero, ka0_0, ra0_0_0, ka0_1, la0_1, (show Int32.toNatClampNeg 2 = 2 from rfl)]
  obtain ⟨c_5, h⟩ := gw_ife h
  refine ⟨c_5, ?_⟩
  refine ⟨fun c_6 => ?_, fun c_6 => ?_⟩
  · replace h := gw_ifp h c_6
    refine hK _ _ _ _ _ _ _ ?_
    rw [fdX11_finish_22]
    simp only [gt_nil, true_and, eq_self, gt_aload_n, gt_rfk, gw_nth, gt_v0, gt_v1, gt_v2, gt_v3, gt_v4, gt_v5, gt_get_r, gt_get_i, gt_get_z, gt_iconst, gt_iaload, gt_istore_n, gw_set, gt_iload_n, gt_ink, gt_iret, gt_retz, bkX11_finish_22, ka0_0, ra0_0_0, ka0_1, la0_1, (show Int32.toNatClampNeg 2 = 2 from rfl)]
    obtain ⟨μ_8, e_9, h⟩ := gw_bnd h
    refine ⟨rfl, 0, 0, hcc, hss, ok_X11_keep hS0 e_9 ?_⟩
    simp only [gt_nil, true_and, eq_self, gt_aload_n, gt_rfk, gw_nth, gt_get_r, gt_get_i, gt_get_z, gt_iconst, gt_iaload, gt_v0, gt_v1, gt_v2, gt_v3, gt_v4, gt_v5, gt_istore_n, gw_set, gt_iload_n, gt_ink, gt_iret, gt_retz, Option.toList, List.cons_append, List.nil_append, Nat.add_zero, ka0_0, ra0_0_0, ka0_1, la0_1, (show Int32.toNatClampNeg 2 = 2 from rfl)]
    refine ⟨(⟨by decide, by decide⟩ : gw_in 2 20813), ?_⟩
    obtain ⟨r_11, μ_12, e_13, h⟩ := gw_bnd2 h
    refine ⟨rfl, 0, 0, hcc, hss, ok_X11_endNow hS0 e_13 ?_⟩
    simp only [gt_nil, true_and, eq_self, gt_istore_n, gw_set, gt_aload_n, gt_rfk, gw_nth, gt_v0, gt_v1, gt_v2, gt_v3, gt_v4, gt_v5, gt_iload_n, gt_ink, gt_iret, gt_retz, Option.toList, List.cons_append, List.nil_append, Nat.add_zero, ka0_0, ra0_0_0, ka0_1, la0_1, (show Int32.toNatClampNeg 2 = 2 from rfl)]
    obtain ⟨μ_16, e_17, h⟩ := gw_bnd h
    refine ⟨rfl, 0, 0, hcc, hss, ok_X11_dealOut hS0 e_17 ?_⟩
    simp only [gt_nil, true_and, eq_self, gt_iload_n, gt_ink, gw_nth, gt_iret, gt_retz, Option.toList, List.cons_append, List.nil_append, Nat.add_zero, ka0_0, ra0_0_0, ka0_1, la0_1, (show Int32.toNatClampNeg 2 = 2 from rfl)]
    obtain ⟨rfl, rfl⟩ := gw_inj2 h
    exact ⟨hcc, hss, hq⟩
  · replace h := gw_ifn h c_6
    obtain ⟨rfl, rfl⟩ := gw_inj2 h
    exact ⟨hcc, hss, hq⟩
def F_X11_hand (n0 : Nat) (a0 : Nat) (v1 : Int32) (μ : gw_M) : Option (Int32 × gw_M) := (F_X11_isIn n0 v1 0 2 μ).bind (fun (r_1 : Int32) => (if r_1 = 0 then some (0, μ) else (if v1 = (μ (a0 + 1) 15) then some (0, μ) else (if ¬ (μ (a0 + 1) 2) = 2 then (F_X11_keep n0 a0 μ).bind (fun (μ_9 : gw_M) => (F_X11_handNow n0 a0 v1 μ_9).bind (fun (μ_13 : gw_M) => (F_X11_dealOut n0 a0 μ_13).bind (fun (μ_17 : gw_M) => some (1, μ_17)))) else some (0, μ)))))
theorem ok_X11_hand {l : Launch} {x : gw_C} {d : Nat} {S : gw_S} {Q : Option Value → gw_S → gw_M → Prop} {v1 : Int32} {a0 : Nat} {n0 : Nat} {μ : gw_M} {r μ'} (hS0 : gw_sh S 11 a0) (h : F_X11_hand n0 a0 v1 μ = some (r, μ')) (hq : ((r = 0 ∨ r = 1) → Q (some (.int r)) S μ')) : gw_ok l x (d + 7) sgX11_hand 0 0 [.ref a0, .int v1] S μ Q := by
  refine gw_ok_of stX11_hand (lv0 := [.ref a0, .int v1]) (Nat.le_of_ble_eq_true rfl) rfl rfl ?_
  intro K hK
  have hcc : 0 ≤ 0 := Nat.zero_le _
  have hss : 0 ≤ 0 := Nat.zero_le _
  have ka0_0 : gw_kd S a0 = 11 := (hS0 0 _ rfl).1
  have ra0_0_0 : gw_rf S a0 0 = a0 + 1 := (hS0 0 _ rfl).2.2 (0, 1) (by decide)
  have ka0_1 : gw_kd S (a0 + 1) = 12 := (hS0 1 _ rfl).1
  have la0_1 : gw_ln S (a0 + 1) = 20813 := (hS0 1 _ rfl).2.1
  unfold F_X11_hand at h
  refine hK _ _ _ _ _ _ _ ?_
  rw [fdX11_hand_0]
  simp only [gt_nil, true_and, eq_self, gt_iload_n, gt_ink, gw_nth, gt_iconst, gt_s1_0, gt_s2_0, gt_s3_0, gt_s4_0, gt_s1_1, gt_s2_1, gt_s3_1, gt_s4_1, gt_acpy, gt_if, gt_aload_n, gt_rfk, gt_get_r, gt_get_i, gt_get_z, gt_bipush, gt_iaload, gt_icmp, bkX11_hand_0, ka0_0, ra0_0_0, ka0_1, la0_1, (show Int32.toNatClampNeg 15 = 15 from rfl), (show Int32.toNatClampNeg 2 = 2 from rfl)]
  obtain ⟨r_1, e_3, h⟩ := gw_bnd h
  refine ⟨rfl, 0, 0, hcc, hss, ok_X11_isIn e_3 ?_⟩
  intro hbr_1
  simp only [gt_nil, true_and, eq_self, gt_if, gt_iload_n, gt_ink, gw_nth, gt_aload_n, gt_rfk, gt_get_r, gt_get_i, gt_get_z, gt_bipush, gt_iaload, gt_icmp, gt_iconst, Option.toList, List.cons_append, List.nil_append, Nat.add_zero, ka0_0, ra0_0_0, ka0_1, la0_1, (show Int32.toNatClampNeg 15 = 15 from rfl), (show Int32.toNatClampNeg 2 = 2 from rfl)]
  refine ⟨fun c_5 => ?_, fun c_5 => ?_⟩
  · replace h := gw_ifp h c_5
    refine hK _ _ _ _ _ _ _ ?_
    rw [fdX11_hand_30]
    simp only [gt_nil, true_and, eq_self, gt_iconst, gt_iret, gt_retz, bkX11_hand_30, ka0_0, ra0_0_0, ka0_1, la0_1, (show Int32.toNatClampNeg 15 = 15 from rfl), (show Int32.toNatClampNeg 2 = 2 from rfl)]
    obtain ⟨rfl, rfl⟩ := gw_inj2 h
    exact ⟨(Or.inl rfl), hcc, hss, hq (Or.inl rfl)⟩
  · replace h := gw_ifn h c_5
    refine ⟨(⟨by decide, by decide⟩ : gw_in 15 20813), ?_⟩
    refine ⟨fun c_6 => ?_, fun c_6 => ?_⟩
    · replace h := gw_ifp2 (gw_c2_eq _ _) h c_6
      refine hK _ _ _ _ _ _ _ ?_
      rw [fdX11_hand_30]
      simp only [gt_nil, true_and, eq_self, gt_iconst, gt_iret, gt_retz, bkX11_hand_30, ka0_0, ra0_0_0, ka0_1, la0_1, (show Int32.toNatClampNeg 15 = 15 from rfl), (show Int32.toNatClampNeg 2 = 2 from rfl)]
      obtain ⟨rfl, rfl⟩ := gw_inj2 h
      exact ⟨(Or.inl rfl), hcc, hss, hq (Or.inl rfl)⟩
    · replace h := gw_ifn2 (gw_c2_eq _ _) h c_6
      refine ⟨(⟨by decide, by decide⟩ : gw_in 2 20813), ?_⟩
      refine ⟨fun c_7 => ?_, fun c_7 => ?_⟩
      · replace h := gw_ifp2 (gw_c2_ne _ _) h c_7
        refine hK _ _ _ _ _ _ _ ?_
        rw [fdX11_hand_32]
        simp only [gt_nil, true_and, eq_self, gt_aload_n, gt_rfk, gw_nth, gt_v0, gt_v1, gt_v2, gt_v3, gt_v4, gt_v5, gt_iload_n, gt_ink, gt_iconst, gt_iret, gt_retz, bkX11_hand_32, ka0_0, ra0_0_0, ka0_1, la0_1, (show Int32.toNatClampNeg 15 = 15 from rfl), (show Int32.toNatClampNeg 2 = 2 from rfl)]
        obtain ⟨μ_9, e_10, h⟩ := gw_bnd h
        refine ⟨rfl, 0, 0, hcc, hss, ok_X11_keep hS0 e_10 ?_⟩
        simp only [gt_nil, true_and, eq_self, gt_aload_n, gt_rfk, gw_nth, gt_iload_n, gt_ink, gt_v0, gt_v1, gt_v2, gt_v3, gt_v4, gt_v5, gt_iconst, gt_iret, gt_retz, Option.toList, List.cons_append, List.nil_append, Nat.add_zero, ka0_0, ra0_0_0, ka0_1, la0_1, (show Int32.toNatClampNeg 15 = 15 from rfl), (show Int32.toNatClampNeg 2 = 2 from rfl)]
        obtain ⟨μ_13, e_14, h⟩ := gw_bnd h
        refine ⟨rfl, 0, 0, hcc, hss, ok_X11_handNow hS0 e_14 ?_⟩
        simp only [gt_nil, true_and, eq_self, gt_aload_n, gt_rfk, gw_nth, gt_v0, gt_v1, gt_v2, gt_v3, gt_v4, gt_v5, gt_iconst, gt_iret, gt_retz, Option.toList, List.cons_append, List.nil_append, Nat.add_zero, ka0_0, ra0_0_0, ka0_1, la0_1, (show Int32.toNatClampNeg 15 = 15 from rfl), (show Int32.toNatClampNeg 2 = 2 from rfl)]
        obtain ⟨μ_17, e_18, h⟩ := gw_bnd h
        refine ⟨rfl, 0, 0, hcc, hss, ok_X11_dealOut hS0 e_18 ?_⟩
        simp only [gt_nil, true_and, eq_self, gt_iconst, gt_iret, gt_retz, Option.toList, List.cons_append, List.nil_append, Nat.add_zero, ka0_0, ra0_0_0, ka0_1, la0_1, (show Int32.toNatClampNeg 15 = 15 from rfl), (show Int32.toNatClampNeg 2 = 2 from rfl)]
        obtain ⟨rfl, rfl⟩ := gw_inj2 h
        exact ⟨(Or.inr rfl), hcc, hss, hq (Or.inr rfl)⟩
      · replace h := gw_ifn2 (gw_c2_ne _ _) h c_7
        refine hK _ _ _ _ _ _ _ ?_
        rw [fdX11_hand_30]
        simp only [gt_nil, true_and, eq_self, gt_iconst, gt_iret, gt_retz, bkX11_hand_30, ka0_0, ra0_0_0, ka0_1, la0_1, (show Int32.toNatClampNeg 15 = 15 from rfl), (show Int32.toNatClampNeg 2 = 2 from rfl)]
        obtain ⟨rfl, rfl⟩ := gw_inj2 h
        exact ⟨(Or.inl rfl), hcc, hss, hq (Or.inl rfl)⟩
def F_X11_scale (n0 : Nat) (a0 : Nat) (v1 : Int32) (v2 : Int32) (v3 : Int32) (μ : gw_M) : Option (Int32 × gw_M) := (F_X11_isGuest n0 v1 μ).bind (fun (r_1 : Int32) => (if r_1 = 0 then some (0, μ) else (F_X11_isIn n0 v2 1 64 μ).bind (fun (r_6 : Int32) => (if r_6 = 0 then some (0, μ) else (F_X11_isIn n0 v3 (-9999) 9999 μ).bind (fun (r_11 : Int32) => (if ¬ r_11 = 0 then (F_X11_keep n0 a0 μ).bind (fun (μ_17 : gw_M) => (F_X11_guestAt n0 a0 v1 μ_17).bind (fun (r_20 : Int32) => (if 0 ≤ (r_20 + (3 : Int32)) ∧ (r_20 + (3 : Int32)).toNatClampNeg < 20813 then gw_let (gw_up μ_17 (a0 + 1) (r_20 + (3 : Int32)).toNatClampNeg v2) (fun (μ_25 : gw_M) => (F_X11_guestAt n0 a0 v1 μ_25).bind (fun (r_26 : Int32) => (if 0 ≤ (r_26 + (4 : Int32)) ∧ (r_26 + (4 : Int32)).toNatClampNeg < 20813 then gw_let (gw_up μ_25 (a0 + 1) (r_26 + (4 : Int32)).toNatClampNeg v3) (fun (μ_31 : gw_M) => (F_X11_dealOut n0 a0 μ_31).bind (fun (μ_33 : gw_M) => some (1, μ_33))) else none))) else none))) else some (0, μ)))))))
theorem ok_X11_scale {l : Launch} {x : gw_C} {d : Nat} {S : gw_S} {Q : Option Value → gw_S → gw_M → Prop} {v1 v2 v3 : Int32} {a0 : Nat} {n0 : Nat} {μ : gw_M} {r μ'} (hS0 : gw_sh S 11 a0) (h : F_X11_scale n0 a0 v1 v2 v3 μ = some (r, μ')) (hq : ((r = 0 ∨ r = 1) → Q (some (.int r)) S μ')) : gw_ok l x (d + 5) sgX11_scale 0 0 [.ref a0, .int v1, .int v2, .int v3] S μ Q := by
  refine gw_ok_of stX11_scale (lv0 := [.ref a0, .int v1, .int v2, .int v3]) (Nat.le_of_ble_eq_true rfl) rfl rfl ?_
  intro K hK
  have hcc : 0 ≤ 0 := Nat.zero_le _
  have hss : 0 ≤ 0 := Nat.zero_le _
  have ka0_0 : gw_kd S a0 = 11 := (hS0 0 _ rfl).1
  have ra0_0_0 : gw_rf S a0 0 = a0 + 1 := (hS0 0 _ rfl).2.2 (0, 1) (by decide)
  have ka0_1 : gw_kd S (a0 + 1) = 12 := (hS0 1 _ rfl).1
  have la0_1 : gw_ln S (a0 + 1) = 20813 := (hS0 1 _ rfl).2.1
  unfold F_X11_scale at h
  refine hK _ _ _ _ _ _ _ ?_
  rw [fdX11_scale_0]
  simp only [gt_nil, true_and, eq_self, gt_iload_n, gt_ink, gw_nth, gt_s1_0, gt_s2_0, gt_s3_0, gt_s4_0, gt_s1_1, gt_s2_1, gt_s3_1, gt_s4_1, gt_acpy, gt_if, gt_iconst, gt_bipush, gt_sipush, bkX11_scale_0, ka0_0, ra0_0_0, ka0_1, la0_1]
  obtain ⟨r_1, e_3, h⟩ := gw_bnd h
  refine ⟨rfl, 0, 0, hcc, hss, ok_X11_isGuest e_3 ?_⟩
  intro hbr_1
  simp only [gt_nil, true_and, eq_self, gt_if, gt_iload_n, gt_ink, gw_nth, gt_iconst, gt_bipush, gt_s1_0, gt_s2_0, gt_s3_0, gt_s4_0, gt_s1_1, gt_s2_1, gt_s3_1, gt_s4_1, gt_acpy, gt_sipush, Option.toList, List.cons_append, List.nil_append, Nat.add_zero, ka0_0, ra0_0_0, ka0_1, la0_1]
  refine ⟨fun c_5 => ?_, fun c_5 => ?_⟩
  · replace h := gw_ifp h c_5
    refine hK _ _ _ _ _ _ _ ?_
    rw [fdX11_scale_30]
    simp only [gt_nil, true_and, eq_self, gt_iconst, gt_iret, gt_retz, bkX11_scale_30, ka0_0, ra0_0_0, ka0_1, la0_1]
    obtain ⟨rfl, rfl⟩ := gw_inj2 h
    exact ⟨(Or.inl rfl), hcc, hss, hq (Or.inl rfl)⟩
  · replace h := gw_ifn h c_5
    obtain ⟨r_6, e_8, h⟩ := gw_bnd h
    refine ⟨rfl, 0, 0, hcc, hss, ok_X11_isIn e_8 ?_⟩
    intro hbr_6
    simp only [gt_nil, true_and, eq_self, gt_if, gt_iload_n, gt_ink, gw_nth, gt_sipush, gt_s1_0, gt_s2_0, gt_s3_0, gt_s4_0, gt_s1_1, gt_s2_1, gt_s3_1, gt_s4_1, gt_acpy, Option.toList, List.cons_append, List.nil_append, Nat.add_zero, ka0_0, ra0_0_0, ka0_1, la0_1]
    refine ⟨fun c_10 => ?_, fun c_10 => ?_⟩
    · replace h := gw_ifp h c_10
      refine hK _ _ _ _ _ _ _ ?_
      rw [fdX11_scale_30]
      simp only [gt_nil, true_and, eq_self, gt_iconst, gt_iret, gt_retz, bkX11_scale_30, ka0_0, ra0_0_0, ka0_1, la0_1]
      obtain ⟨rfl, rfl⟩ := gw_inj2 h
      exact ⟨(Or.inl rfl), hcc, hss, hq (Or.inl rfl)⟩
    · replace h := gw_ifn h c_10
      obtain ⟨r_11, e_13, h⟩ := gw_bnd h
      refine ⟨rfl, 0, 0, hcc, hss, ok_X11_isIn e_13 ?_⟩
      intro hbr_11
      simp only [gt_nil, true_and, eq_self, gt_if, Option.toList, List.cons_append, List.nil_append, Nat.add_zero, ka0_0, ra0_0_0, ka0_1, la0_1]
      refine ⟨fun c_15 => ?_, fun c_15 => ?_⟩
      · replace h := gw_ifp h c_15
        refine hK _ _ _ _ _ _ _ ?_
        rw [fdX11_scale_32]
        simp only [gt_nil, true_and, eq_self, gt_aload_n, gt_rfk, gw_nth, gt_v0, gt_v1, gt_v2, gt_v3, gt_v4, gt_v5, gt_get_r, gt_get_i, gt_get_z, gt_iload_n, gt_ink, gt_iconst, gt_iadd, gt_iastore, gt_iret, gt_retz, bkX11_scale_32, ka0_0, ra0_0_0, ka0_1, la0_1]
        obtain ⟨μ_17, e_18, h⟩ := gw_bnd h
        refine ⟨rfl, 0, 0, hcc, hss, ok_X11_keep hS0 e_18 ?_⟩
        simp only [gt_nil, true_and, eq_self, gt_aload_n, gt_rfk, gw_nth, gt_get_r, gt_get_i, gt_get_z, gt_iload_n, gt_ink, gt_v0, gt_v1, gt_v2, gt_v3, gt_v4, gt_v5, gt_iconst, gt_iadd, gt_iastore, gt_iret, gt_retz, Option.toList, List.cons_append, List.nil_append, Nat.add_zero, ka0_0, ra0_0_0, ka0_1, la0_1]
        obtain ⟨r_20, e_22, h⟩ := gw_bnd h
        refine ⟨rfl, 0, 0, hcc, hss, ok_X11_guestAt hS0 e_22 ?_⟩
        simp only [gt_nil, true_and, eq_self, gt_iconst, gt_iadd, gt_iload_n, gt_ink, gw_nth, gt_iastore, gt_aload_n, gt_rfk, gt_get_r, gt_get_i, gt_get_z, gt_v0, gt_v1, gt_v2, gt_v3, gt_v4, gt_v5, gt_iret, gt_retz, Option.toList, List.cons_append, List.nil_append, Nat.add_zero, ka0_0, ra0_0_0, ka0_1, la0_1]
        obtain ⟨c_24, h⟩ := gw_ife h
        refine ⟨c_24, ?_⟩
        obtain ⟨μ_25, hμ_25, h⟩ := gw_lt h
        try rw [← hμ_25]
        obtain ⟨r_26, e_28, h⟩ := gw_bnd h
        refine ⟨rfl, 0, 0, hcc, hss, ok_X11_guestAt hS0 e_28 ?_⟩
        simp only [gt_nil, true_and, eq_self, gt_iconst, gt_iadd, gt_iload_n, gt_ink, gw_nth, gt_iastore, gt_aload_n, gt_rfk, gt_v0, gt_v1, gt_v2, gt_v3, gt_v4, gt_v5, gt_iret, gt_retz, Option.toList, List.cons_append, List.nil_append, Nat.add_zero, ka0_0, ra0_0_0, ka0_1, la0_1]
        obtain ⟨c_30, h⟩ := gw_ife h
        refine ⟨c_30, ?_⟩
        obtain ⟨μ_31, hμ_31, h⟩ := gw_lt h
        try rw [← hμ_31]
        obtain ⟨μ_33, e_34, h⟩ := gw_bnd h
        refine ⟨rfl, 0, 0, hcc, hss, ok_X11_dealOut hS0 e_34 ?_⟩
        simp only [gt_nil, true_and, eq_self, gt_iconst, gt_iret, gt_retz, Option.toList, List.cons_append, List.nil_append, Nat.add_zero, ka0_0, ra0_0_0, ka0_1, la0_1]
        obtain ⟨rfl, rfl⟩ := gw_inj2 h
        exact ⟨(Or.inr rfl), hcc, hss, hq (Or.inr rfl)⟩
      · replace h := gw_ifn h c_15
        refine hK _ _ _ _ _ _ _ ?_
        rw [fdX11_scale_30]
        simp only [gt_nil, true_and, eq_self, gt_iconst, gt_iret, gt_retz, bkX11_scale_30, ka0_0, ra0_0_0, ka0_1, la0_1]
        obtain ⟨rfl, rfl⟩ := gw_inj2 h
        exact ⟨(Or.inl rfl), hcc, hss, hq (Or.inl rfl)⟩
def F_X11_timer (n0 : Nat) (a0 : Nat) (v1 : Int32) (v2 : Int32) (v3 : Int32) (μ : gw_M) : Option (Int32 × gw_M) := (F_X11_isIn n0 v1 0 2 μ).bind (fun (r_1 : Int32) => (if r_1 = 0 then some ((-1), μ) else (F_X11_isIn n0 v2 (-99999) 999999 μ).bind (fun (r_6 : Int32) => (if r_6 = 0 then some ((-1), μ) else (F_X11_isIn n0 v3 0 15 μ).bind (fun (r_11 : Int32) => (if r_11 = 0 then some ((-1), μ) else (if ¬ (μ (a0 + 1) 26) = 12 then (F_X11_keep n0 a0 μ).bind (fun (μ_18 : gw_M) => gw_let (((957 : Int32) + ((3 : Int32) * (μ_18 (a0 + 1) 26)))) (fun (w_21 : Int32) => (if 0 ≤ w_21 ∧ w_21.toNatClampNeg < 20813 then gw_let (gw_up μ_18 (a0 + 1) w_21.toNatClampNeg v1) (fun (μ_23 : gw_M) => (if 0 ≤ (w_21 + (1 : Int32)) ∧ (w_21 + (1 : Int32)).toNatClampNeg < 20813 then gw_let (gw_up μ_23 (a0 + 1) (w_21 + (1 : Int32)).toNatClampNeg v2) (fun (μ_25 : gw_M) => (if 0 ≤ (w_21 + (2 : Int32)) ∧ (w_21 + (2 : Int32)).toNatClampNeg < 20813 then gw_let (gw_up μ_25 (a0 + 1) (w_21 + (2 : Int32)).toNatClampNeg v3) (fun (μ_27 : gw_M) => gw_let (gw_up μ_27 (a0 + 1) 26 ((μ_27 (a0 + 1) 26) + (1 : Int32))) (fun (μ_28 : gw_M) => (F_X11_dealOut n0 a0 μ_28).bind (fun (μ_30 : gw_M) => some ((μ_30 (a0 + 1) 26), μ_30)))) else none)) else none)) else none))) else some ((-1), μ))))))))
theorem ok_X11_timer {l : Launch} {x : gw_C} {d : Nat} {S : gw_S} {Q : Option Value → gw_S → gw_M → Prop} {v1 v2 v3 : Int32} {a0 : Nat} {n0 : Nat} {μ : gw_M} {r μ'} (hS0 : gw_sh S 11 a0) (h : F_X11_timer n0 a0 v1 v2 v3 μ = some (r, μ')) (hq : Q (some (.int r)) S μ') : gw_ok l x (d + 5) sgX11_timer 0 0 [.ref a0, .int v1, .int v2, .int v3] S μ Q := by
  refine gw_ok_of stX11_timer (lv0 := [.ref a0, .int v1, .int v2, .int v3, .retAddr 0]) (Nat.le_of_ble_eq_true rfl) rfl rfl ?_
  intro K hK
  have hcc : 0 ≤ 0 := Nat.zero_le _
  have hss : 0 ≤ 0 := Nat.zero_le _
  have ka0_0 : gw_kd S a0 = 11 := (hS0 0 _ rfl).1
  have ra0_0_0 : gw_rf S a0 0 = a0 + 1 := (hS0 0 _ rfl).2.2 (0, 1) (by decide)
  have ka0_1 : gw_kd S (a0 + 1) = 12 := (hS0 1 _ rfl).1
  have la0_1 : gw_ln S (a0 + 1) = 20813 := (hS0 1 _ rfl).2.1
  unfold F_X11_timer at h
  refine hK _ _ _ _ _ _ _ ?_
  rw [fdX11_timer_0]
  simp only [gt_nil, true_and, eq_self, gt_iload_n, gt_ink, gw_nth, gt_iconst, gt_s1_0, gt_s2_0, gt_s3_0, gt_s4_0, gt_s1_1, gt_s2_1, gt_s3_1, gt_s4_1, gt_acpy, gt_if, gt_ldc, gt_bipush, gt_aload_n, gt_rfk, gt_get_r, gt_get_i, gt_get_z, gt_iaload, gt_icmp, bkX11_timer_0, ka0_0, ra0_0_0, ka0_1, la0_1, (show Int32.toNatClampNeg 26 = 26 from rfl)]
  obtain ⟨r_1, e_3, h⟩ := gw_bnd h
  refine ⟨rfl, 0, 0, hcc, hss, ok_X11_isIn e_3 ?_⟩
  intro hbr_1
  simp only [gt_nil, true_and, eq_self, gt_if, gt_iload_n, gt_ink, gw_nth, gt_ldc, gt_s1_0, gt_s2_0, gt_s3_0, gt_s4_0, gt_s1_1, gt_s2_1, gt_s3_1, gt_s4_1, gt_acpy, gt_iconst, gt_bipush, gt_aload_n, gt_rfk, gt_get_r, gt_get_i, gt_get_z, gt_iaload, gt_icmp, Option.toList, List.cons_append, List.nil_append, Nat.add_zero, ka0_0, ra0_0_0, ka0_1, la0_1, (show Int32.toNatClampNeg 26 = 26 from rfl)]
  refine ⟨fun c_5 => ?_, fun c_5 => ?_⟩
  · replace h := gw_ifp h c_5
    refine hK _ _ _ _ _ _ _ ?_
    rw [fdX11_timer_42]
    simp only [gt_nil, true_and, eq_self, gt_iconst, gt_iret, gt_retz, bkX11_timer_42, ka0_0, ra0_0_0, ka0_1, la0_1, (show Int32.toNatClampNeg 26 = 26 from rfl)]
    obtain ⟨rfl, rfl⟩ := gw_inj2 h
    exact ⟨hcc, hss, hq⟩
  · replace h := gw_ifn h c_5
    obtain ⟨r_6, e_8, h⟩ := gw_bnd h
    refine ⟨rfl, 0, 0, hcc, hss, ok_X11_isIn e_8 ?_⟩
    intro hbr_6
    simp only [gt_nil, true_and, eq_self, gt_if, gt_iload_n, gt_ink, gw_nth, gt_iconst, gt_bipush, gt_s1_0, gt_s2_0, gt_s3_0, gt_s4_0, gt_s1_1, gt_s2_1, gt_s3_1, gt_s4_1, gt_acpy, gt_aload_n, gt_rfk, gt_get_r, gt_get_i, gt_get_z, gt_iaload, gt_icmp, Option.toList, List.cons_append, List.nil_append, Nat.add_zero, ka0_0, ra0_0_0, ka0_1, la0_1, (show Int32.toNatClampNeg 26 = 26 from rfl)]
    refine ⟨fun c_10 => ?_, fun c_10 => ?_⟩
    · replace h := gw_ifp h c_10
      refine hK _ _ _ _ _ _ _ ?_
      rw [fdX11_timer_42]
      simp only [gt_nil, true_and, eq_self, gt_iconst, gt_iret, gt_retz, bkX11_timer_42, ka0_0, ra0_0_0, ka0_1, la0_1, (show Int32.toNatClampNeg 26 = 26 from rfl)]
      obtain ⟨rfl, rfl⟩ := gw_inj2 h
      exact ⟨hcc, hss, hq⟩
    · replace h := gw_ifn h c_10
      obtain ⟨r_11, e_13, h⟩ := gw_bnd h
      refine ⟨rfl, 0, 0, hcc, hss, ok_X11_isIn e_13 ?_⟩
      intro hbr_11
      simp only [gt_nil, true_and, eq_self, gt_if, gt_aload_n, gt_rfk, gw_nth, gt_get_r, gt_get_i, gt_get_z, gt_bipush, gt_iaload, gt_icmp, Option.toList, List.cons_append, List.nil_append, Nat.add_zero, ka0_0, ra0_0_0, ka0_1, la0_1, (show Int32.toNatClampNeg 26 = 26 from rfl)]
      refine ⟨fun c_15 => ?_, fun c_15 => ?_⟩
      · replace h := gw_ifp h c_15
        refine hK _ _ _ _ _ _ _ ?_
        rw [fdX11_timer_42]
        simp only [gt_nil, true_and, eq_self, gt_iconst, gt_iret, gt_retz, bkX11_timer_42, ka0_0, ra0_0_0, ka0_1, la0_1, (show Int32.toNatClampNeg 26 = 26 from rfl)]
        obtain ⟨rfl, rfl⟩ := gw_inj2 h
        exact ⟨hcc, hss, hq⟩
      · replace h := gw_ifn h c_15
        refine ⟨(⟨by decide, by decide⟩ : gw_in 26 20813), ?_⟩
        refine ⟨fun c_16 => ?_, fun c_16 => ?_⟩
        · replace h := gw_ifp2 (gw_c2_ne _ _) h c_16
          refine hK _ _ _ _ _ _ _ ?_
          rw [fdX11_timer_44]
          simp only [gt_nil, true_and, eq_self, gt_aload_n, gt_rfk, gw_nth, gt_v0, gt_v1, gt_v2, gt_v3, gt_v4, gt_v5, gt_sipush, gt_iconst, gt_get_r, gt_get_i, gt_get_z, gt_bipush, gt_iaload, gt_imul, gt_iadd, gt_istore, gw_set, gt_iload, gt_ink, gt_iload_n, gt_iastore, gt_dup2, gt_iret, gt_retz, bkX11_timer_44, ka0_0, ra0_0_0, ka0_1, la0_1, (show Int32.toNatClampNeg 26 = 26 from rfl)]
          obtain ⟨μ_18, e_19, h⟩ := gw_bnd h
          refine ⟨rfl, 0, 0, hcc, hss, ok_X11_keep hS0 e_19 ?_⟩
          simp only [gt_nil, true_and, eq_self, gt_sipush, gt_iconst, gt_aload_n, gt_rfk, gw_nth, gt_get_r, gt_get_i, gt_get_z, gt_bipush, gt_iaload, gt_imul, gt_iadd, gt_istore, gw_set, gt_iload, gt_ink, gt_iload_n, gt_iastore, gt_dup2, gt_v0, gt_v1, gt_v2, gt_v3, gt_v4, gt_v5, gt_iret, gt_retz, Option.toList, List.cons_append, List.nil_append, Nat.add_zero, ka0_0, ra0_0_0, ka0_1, la0_1, (show Int32.toNatClampNeg 26 = 26 from rfl)]
          refine ⟨(⟨by decide, by decide⟩ : gw_in 26 20813), ?_⟩
          obtain ⟨w_21, hw_21, h⟩ := gw_lt h
          try rw [← hw_21]
          obtain ⟨c_22, h⟩ := gw_ife h
          refine ⟨c_22, ?_⟩
          obtain ⟨μ_23, hμ_23, h⟩ := gw_lt h
          try rw [← hμ_23]
          obtain ⟨c_24, h⟩ := gw_ife h
          refine ⟨c_24, ?_⟩
          obtain ⟨μ_25, hμ_25, h⟩ := gw_lt h
          try rw [← hμ_25]
          obtain ⟨c_26, h⟩ := gw_ife h
          refine ⟨c_26, ?_⟩
          obtain ⟨μ_27, hμ_27, h⟩ := gw_lt h
          try rw [← hμ_27]
          refine ⟨(⟨by decide, by decide⟩ : gw_in 26 20813), ?_⟩
          refine ⟨(⟨by decide, by decide⟩ : gw_in 26 20813), ?_⟩
          obtain ⟨μ_28, hμ_28, h⟩ := gw_lt h
          try rw [← hμ_28]
          obtain ⟨μ_30, e_31, h⟩ := gw_bnd h
          refine ⟨rfl, 0, 0, hcc, hss, ok_X11_dealOut hS0 e_31 ?_⟩
          simp only [gt_nil, true_and, eq_self, gt_aload_n, gt_rfk, gw_nth, gt_get_r, gt_get_i, gt_get_z, gt_bipush, gt_iaload, gt_iret, gt_retz, Option.toList, List.cons_append, List.nil_append, Nat.add_zero, ka0_0, ra0_0_0, ka0_1, la0_1, (show Int32.toNatClampNeg 26 = 26 from rfl)]
          refine ⟨(⟨by decide, by decide⟩ : gw_in 26 20813), ?_⟩
          obtain ⟨rfl, rfl⟩ := gw_inj2 h
          exact ⟨hcc, hss, hq⟩
        · replace h := gw_ifn2 (gw_c2_ne _ _) h c_16
          refine hK _ _ _ _ _ _ _ ?_
          rw [fdX11_timer_42]
          simp only [gt_nil, true_and, eq_self, gt_iconst, gt_iret, gt_retz, bkX11_timer_42, ka0_0, ra0_0_0, ka0_1, la0_1, (show Int32.toNatClampNeg 26 = 26 from rfl)]
          obtain ⟨rfl, rfl⟩ := gw_inj2 h
          exact ⟨hcc, hss, hq⟩
def F_X11_cancel (n0 : Nat) (a0 : Nat) (v1 : Int32) (μ : gw_M) : Option (Int32 × gw_M) := (F_X11_isIn n0 v1 0 ((μ (a0 + 1) 26) - (1 : Int32)) μ).bind (fun (r_1 : Int32) => (if ¬ r_1 = 0 then (F_X11_keep n0 a0 μ).bind (fun (μ_7 : gw_M) => (F_X11_dropTimer n0 a0 v1 μ_7).bind (fun (μ_11 : gw_M) => (F_X11_dealOut n0 a0 μ_11).bind (fun (μ_15 : gw_M) => some (1, μ_15)))) else some (0, μ)))
theorem ok_X11_cancel {l : Launch} {x : gw_C} {d : Nat} {S : gw_S} {Q : Option Value → gw_S → gw_M → Prop} {v1 : Int32} {a0 : Nat} {n0 : Nat} {μ : gw_M} {r μ'} (hS0 : gw_sh S 11 a0) (h : F_X11_cancel n0 a0 v1 μ = some (r, μ')) (hq : ((r = 0 ∨ r = 1) → Q (some (.int r)) S μ')) : gw_ok l x (d + 5) sgX11_cancel 0 0 [.ref a0, .int v1] S μ Q := by
  refine gw_ok_of stX11_cancel (lv0 := [.ref a0, .int v1]) (Nat.le_of_ble_eq_true rfl) rfl rfl ?_
  intro K hK
  have hcc : 0 ≤ 0 := Nat.zero_le _
  have hss : 0 ≤ 0 := Nat.zero_le _
  have ka0_0 : gw_kd S a0 = 11 := (hS0 0 _ rfl).1
  have ra0_0_0 : gw_rf S a0 0 = a0 + 1 := (hS0 0 _ rfl).2.2 (0, 1) (by decide)
  have ka0_1 : gw_kd S (a0 + 1) = 12 := (hS0 1 _ rfl).1
  have la0_1 : gw_ln S (a0 + 1) = 20813 := (hS0 1 _ rfl).2.1
  unfold F_X11_cancel at h
  refine hK _ _ _ _ _ _ _ ?_
  rw [fdX11_cancel_0]
  simp only [gt_nil, true_and, eq_self, gt_iload_n, gt_ink, gw_nth, gt_iconst, gt_aload_n, gt_rfk, gt_get_r, gt_get_i, gt_get_z, gt_bipush, gt_iaload, gt_isub, gt_s1_0, gt_s2_0, gt_s3_0, gt_s4_0, gt_s1_1, gt_s2_1, gt_s3_1, gt_s4_1, gt_acpy, gt_if, gt_iret, gt_retz, bkX11_cancel_0, ka0_0, ra0_0_0, ka0_1, la0_1, (show Int32.toNatClampNeg 26 = 26 from rfl)]
  refine ⟨(⟨by decide, by decide⟩ : gw_in 26 20813), ?_⟩
  obtain ⟨r_1, e_3, h⟩ := gw_bnd h
  refine ⟨rfl, 0, 0, hcc, hss, ok_X11_isIn e_3 ?_⟩
  intro hbr_1
  simp only [gt_nil, true_and, eq_self, gt_if, gt_iconst, gt_iret, gt_retz, Option.toList, List.cons_append, List.nil_append, Nat.add_zero, ka0_0, ra0_0_0, ka0_1, la0_1, (show Int32.toNatClampNeg 26 = 26 from rfl)]
  refine ⟨fun c_5 => ?_, fun c_5 => ?_⟩
  · replace h := gw_ifp h c_5
    refine hK _ _ _ _ _ _ _ ?_
    rw [fdX11_cancel_19]
    simp only [gt_nil, true_and, eq_self, gt_aload_n, gt_rfk, gw_nth, gt_v0, gt_v1, gt_v2, gt_v3, gt_v4, gt_v5, gt_iload_n, gt_ink, gt_iconst, gt_iret, gt_retz, bkX11_cancel_19, ka0_0, ra0_0_0, ka0_1, la0_1, (show Int32.toNatClampNeg 26 = 26 from rfl)]
    obtain ⟨μ_7, e_8, h⟩ := gw_bnd h
    refine ⟨rfl, 0, 0, hcc, hss, ok_X11_keep hS0 e_8 ?_⟩
    simp only [gt_nil, true_and, eq_self, gt_aload_n, gt_rfk, gw_nth, gt_iload_n, gt_ink, gt_v0, gt_v1, gt_v2, gt_v3, gt_v4, gt_v5, gt_iconst, gt_iret, gt_retz, Option.toList, List.cons_append, List.nil_append, Nat.add_zero, ka0_0, ra0_0_0, ka0_1, la0_1, (show Int32.toNatClampNeg 26 = 26 from rfl)]
    obtain ⟨μ_11, e_12, h⟩ := gw_bnd h
    refine ⟨rfl, 0, 0, hcc, hss, ok_X11_dropTimer hS0 e_12 ?_⟩
    simp only [gt_nil, true_and, eq_self, gt_aload_n, gt_rfk, gw_nth, gt_v0, gt_v1, gt_v2, gt_v3, gt_v4, gt_v5, gt_iconst, gt_iret, gt_retz, Option.toList, List.cons_append, List.nil_append, Nat.add_zero, ka0_0, ra0_0_0, ka0_1, la0_1, (show Int32.toNatClampNeg 26 = 26 from rfl)]
    obtain ⟨μ_15, e_16, h⟩ := gw_bnd h
    refine ⟨rfl, 0, 0, hcc, hss, ok_X11_dealOut hS0 e_16 ?_⟩
    simp only [gt_nil, true_and, eq_self, gt_iconst, gt_iret, gt_retz, Option.toList, List.cons_append, List.nil_append, Nat.add_zero, ka0_0, ra0_0_0, ka0_1, la0_1, (show Int32.toNatClampNeg 26 = 26 from rfl)]
    obtain ⟨rfl, rfl⟩ := gw_inj2 h
    exact ⟨(Or.inr rfl), hcc, hss, hq (Or.inr rfl)⟩
  · replace h := gw_ifn h c_5
    obtain ⟨rfl, rfl⟩ := gw_inj2 h
    exact ⟨(Or.inl rfl), hcc, hss, hq (Or.inl rfl)⟩
def F_X11_isHandled_22 (n0 : Nat) (μ : gw_M) : Option (Int32) := some 1
def F_X11_isHandled (n0 : Nat) (v0 : Int32) (μ : gw_M) : Option (Int32) := (if v0 = 1 then F_X11_isHandled_22 n0 μ else (if v0 = 4 then F_X11_isHandled_22 n0 μ else (if v0 = 6 then F_X11_isHandled_22 n0 μ else (if ¬ v0 = 8 then some 0 else F_X11_isHandled_22 n0 μ))))
theorem B_X11_isHandled_22 {l : Launch} {x : gw_C} {d : Nat} {S : gw_S} {Q : Option Value → gw_S → gw_M → Prop} {K : Nat → gw_Kt} {mc ms cc ss : Nat} (hcc : cc ≤ mc) (hss : ss ≤ ms) (hK : gw_cl l x (d + 0) mc ms bsX11_isHandled Q K) {n0 : Nat}  {u0 : Value} {μ : gw_M} {r} (h : F_X11_isHandled_22 n0 μ = some r) (hq : ((r = 0 ∨ r = 1) → Q (some (.int r)) S μ)) : K 22 [u0] [] S μ cc ss := by
  unfold F_X11_isHandled_22 at h
  refine hK _ _ _ _ _ _ _ ?_
  rw [fdX11_isHandled_22]
  simp only [gt_nil, true_and, eq_self, gt_iconst, gt_goto, bkX11_isHandled_22]
  refine hK _ _ _ _ _ _ _ ?_
  rw [fdX11_isHandled_27]
  simp only [gt_nil, true_and, eq_self, gt_iret, gt_retz, bkX11_isHandled_27]
  obtain rfl := gw_inj1 h
  exact ⟨(Or.inr rfl), hcc, hss, hq (Or.inr rfl)⟩
theorem ok_X11_isHandled {l : Launch} {x : gw_C} {d : Nat} {S : gw_S} {Q : Option Value → gw_S → gw_M → Prop} {v0 : Int32} {n0 : Nat} {μ : gw_M} {r} (h : F_X11_isHandled n0 v0 μ = some r) (hq : ((r = 0 ∨ r = 1) → Q (some (.int r)) S μ)) : gw_ok l x (d + 1) sgX11_isHandled 0 0 [.int v0] S μ Q := by
  refine gw_ok_of stX11_isHandled (lv0 := [.int v0]) (Nat.le_of_ble_eq_true rfl) rfl rfl ?_
  intro K hK
  have hcc : 0 ≤ 0 := Nat.zero_le _
  have hss : 0 ≤ 0 := Nat.zero_le _
  unfold F_X11_isHandled at h
  refine hK _ _ _ _ _ _ _ ?_
  rw [fdX11_isHandled_0]
  simp only [gt_nil, true_and, eq_self, gt_iload_n, gt_ink, gw_nth, gt_iconst, gt_icmp, gt_bipush, bkX11_isHandled_0]
  refine ⟨fun c_1 => ?_, fun c_1 => ?_⟩
  · replace h := gw_ifp2 (gw_c2_eq _ _) h c_1
    exact B_X11_isHandled_22 hcc hss hK h hq
  · replace h := gw_ifn2 (gw_c2_eq _ _) h c_1
    refine ⟨fun c_2 => ?_, fun c_2 => ?_⟩
    · replace h := gw_ifp2 (gw_c2_eq _ _) h c_2
      exact B_X11_isHandled_22 hcc hss hK h hq
    · replace h := gw_ifn2 (gw_c2_eq _ _) h c_2
      refine ⟨fun c_3 => ?_, fun c_3 => ?_⟩
      · replace h := gw_ifp2 (gw_c2_eq _ _) h c_3
        exact B_X11_isHandled_22 hcc hss hK h hq
      · replace h := gw_ifn2 (gw_c2_eq _ _) h c_3
        refine ⟨fun c_4 => ?_, fun c_4 => ?_⟩
        · replace h := gw_ifp2 (gw_c2_ne _ _) h c_4
          refine hK _ _ _ _ _ _ _ ?_
          rw [fdX11_isHandled_26]
          simp only [gt_nil, true_and, eq_self, gt_iconst, bkX11_isHandled_26]
          refine hK _ _ _ _ _ _ _ ?_
          rw [fdX11_isHandled_27]
          simp only [gt_nil, true_and, eq_self, gt_iret, gt_retz, bkX11_isHandled_27]
          obtain rfl := gw_inj1 h
          exact ⟨(Or.inl rfl), hcc, hss, hq (Or.inl rfl)⟩
        · replace h := gw_ifn2 (gw_c2_ne _ _) h c_4
          exact B_X11_isHandled_22 hcc hss hK h hq
def F_X11_handler (n0 : Nat) (a0 : Nat) (v1 : Int32) (v2 : Int32) (μ : gw_M) : Option (Int32 × gw_M) := (F_X11_isHandled n0 v1 μ).bind (fun (r_1 : Int32) => (if r_1 = 0 then some (0, μ) else (F_X11_isIn n0 v2 (-1) 23 μ).bind (fun (r_6 : Int32) => (if ¬ r_6 = 0 then (F_X11_keep n0 a0 μ).bind (fun (μ_12 : gw_M) => (if 0 ≤ ((828 : Int32) + v1) ∧ ((828 : Int32) + v1).toNatClampNeg < 20813 then gw_let (gw_up μ_12 (a0 + 1) ((828 : Int32) + v1).toNatClampNeg v2) (fun (μ_16 : gw_M) => (F_X11_dealOut n0 a0 μ_16).bind (fun (μ_18 : gw_M) => some (1, μ_18))) else none)) else some (0, μ)))))
theorem ok_X11_handler {l : Launch} {x : gw_C} {d : Nat} {S : gw_S} {Q : Option Value → gw_S → gw_M → Prop} {v1 v2 : Int32} {a0 : Nat} {n0 : Nat} {μ : gw_M} {r μ'} (hS0 : gw_sh S 11 a0) (h : F_X11_handler n0 a0 v1 v2 μ = some (r, μ')) (hq : ((r = 0 ∨ r = 1) → Q (some (.int r)) S μ')) : gw_ok l x (d + 5) sgX11_handler 0 0 [.ref a0, .int v1, .int v2] S μ Q := by
  refine gw_ok_of stX11_handler (lv0 := [.ref a0, .int v1, .int v2]) (Nat.le_of_ble_eq_true rfl) rfl rfl ?_
  intro K hK
  have hcc : 0 ≤ 0 := Nat.zero_le _
  have hss : 0 ≤ 0 := Nat.zero_le _
  have ka0_0 : gw_kd S a0 = 11 := (hS0 0 _ rfl).1
  have ra0_0_0 : gw_rf S a0 0 = a0 + 1 := (hS0 0 _ rfl).2.2 (0, 1) (by decide)
  have ka0_1 : gw_kd S (a0 + 1) = 12 := (hS0 1 _ rfl).1
  have la0_1 : gw_ln S (a0 + 1) = 20813 := (hS0 1 _ rfl).2.1
  unfold F_X11_handler at h
  refine hK _ _ _ _ _ _ _ ?_
  rw [fdX11_handler_0]
  simp only [gt_nil, true_and, eq_self, gt_iload_n, gt_ink, gw_nth, gt_s1_0, gt_s2_0, gt_s3_0, gt_s4_0, gt_s1_1, gt_s2_1, gt_s3_1, gt_s4_1, gt_acpy, gt_if, gt_iconst, gt_bipush, bkX11_handler_0, ka0_0, ra0_0_0, ka0_1, la0_1]
  obtain ⟨r_1, e_3, h⟩ := gw_bnd h
  refine ⟨rfl, 0, 0, hcc, hss, ok_X11_isHandled e_3 ?_⟩
  intro hbr_1
  simp only [gt_nil, true_and, eq_self, gt_if, gt_iload_n, gt_ink, gw_nth, gt_iconst, gt_bipush, gt_s1_0, gt_s2_0, gt_s3_0, gt_s4_0, gt_s1_1, gt_s2_1, gt_s3_1, gt_s4_1, gt_acpy, Option.toList, List.cons_append, List.nil_append, Nat.add_zero, ka0_0, ra0_0_0, ka0_1, la0_1]
  refine ⟨fun c_5 => ?_, fun c_5 => ?_⟩
  · replace h := gw_ifp h c_5
    refine hK _ _ _ _ _ _ _ ?_
    rw [fdX11_handler_17]
    simp only [gt_nil, true_and, eq_self, gt_iconst, gt_iret, gt_retz, bkX11_handler_17, ka0_0, ra0_0_0, ka0_1, la0_1]
    obtain ⟨rfl, rfl⟩ := gw_inj2 h
    exact ⟨(Or.inl rfl), hcc, hss, hq (Or.inl rfl)⟩
  · replace h := gw_ifn h c_5
    obtain ⟨r_6, e_8, h⟩ := gw_bnd h
    refine ⟨rfl, 0, 0, hcc, hss, ok_X11_isIn e_8 ?_⟩
    intro hbr_6
    simp only [gt_nil, true_and, eq_self, gt_if, Option.toList, List.cons_append, List.nil_append, Nat.add_zero, ka0_0, ra0_0_0, ka0_1, la0_1]
    refine ⟨fun c_10 => ?_, fun c_10 => ?_⟩
    · replace h := gw_ifp h c_10
      refine hK _ _ _ _ _ _ _ ?_
      rw [fdX11_handler_19]
      simp only [gt_nil, true_and, eq_self, gt_aload_n, gt_rfk, gw_nth, gt_v0, gt_v1, gt_v2, gt_v3, gt_v4, gt_v5, gt_get_r, gt_get_i, gt_get_z, gt_sipush, gt_iload_n, gt_ink, gt_iadd, gt_iastore, gt_iconst, gt_iret, gt_retz, bkX11_handler_19, ka0_0, ra0_0_0, ka0_1, la0_1]
      obtain ⟨μ_12, e_13, h⟩ := gw_bnd h
      refine ⟨rfl, 0, 0, hcc, hss, ok_X11_keep hS0 e_13 ?_⟩
      simp only [gt_nil, true_and, eq_self, gt_aload_n, gt_rfk, gw_nth, gt_get_r, gt_get_i, gt_get_z, gt_sipush, gt_iload_n, gt_ink, gt_iadd, gt_iastore, gt_v0, gt_v1, gt_v2, gt_v3, gt_v4, gt_v5, gt_iconst, gt_iret, gt_retz, Option.toList, List.cons_append, List.nil_append, Nat.add_zero, ka0_0, ra0_0_0, ka0_1, la0_1]
      obtain ⟨c_15, h⟩ := gw_ife h
      refine ⟨c_15, ?_⟩
      obtain ⟨μ_16, hμ_16, h⟩ := gw_lt h
      try rw [← hμ_16]
      obtain ⟨μ_18, e_19, h⟩ := gw_bnd h
      refine ⟨rfl, 0, 0, hcc, hss, ok_X11_dealOut hS0 e_19 ?_⟩
      simp only [gt_nil, true_and, eq_self, gt_iconst, gt_iret, gt_retz, Option.toList, List.cons_append, List.nil_append, Nat.add_zero, ka0_0, ra0_0_0, ka0_1, la0_1]
      obtain ⟨rfl, rfl⟩ := gw_inj2 h
      exact ⟨(Or.inr rfl), hcc, hss, hq (Or.inr rfl)⟩
    · replace h := gw_ifn h c_10
      refine hK _ _ _ _ _ _ _ ?_
      rw [fdX11_handler_17]
      simp only [gt_nil, true_and, eq_self, gt_iconst, gt_iret, gt_retz, bkX11_handler_17, ka0_0, ra0_0_0, ka0_1, la0_1]
      obtain ⟨rfl, rfl⟩ := gw_inj2 h
      exact ⟨(Or.inl rfl), hcc, hss, hq (Or.inl rfl)⟩
def F_X11_slice (n0 : Nat) (a0 : Nat) (v1 : Int32) (μ : gw_M) : Option (Int32 × gw_M) := (F_X11_isIn n0 v1 0 99 μ).bind (fun (r_1 : Int32) => (if ¬ r_1 = 0 then (F_X11_keep n0 a0 μ).bind (fun (μ_7 : gw_M) => gw_let (gw_up μ_7 (a0 + 1) 11 v1) (fun (μ_10 : gw_M) => (F_X11_dealOut n0 a0 μ_10).bind (fun (μ_12 : gw_M) => some (1, μ_12)))) else some (0, μ)))
theorem ok_X11_slice {l : Launch} {x : gw_C} {d : Nat} {S : gw_S} {Q : Option Value → gw_S → gw_M → Prop} {v1 : Int32} {a0 : Nat} {n0 : Nat} {μ : gw_M} {r μ'} (hS0 : gw_sh S 11 a0) (h : F_X11_slice n0 a0 v1 μ = some (r, μ')) (hq : ((r = 0 ∨ r = 1) → Q (some (.int r)) S μ')) : gw_ok l x (d + 5) sgX11_slice 0 0 [.ref a0, .int v1] S μ Q := by
  refine gw_ok_of stX11_slice (lv0 := [.ref a0, .int v1]) (Nat.le_of_ble_eq_true rfl) rfl rfl ?_
  intro K hK
  have hcc : 0 ≤ 0 := Nat.zero_le _
  have hss : 0 ≤ 0 := Nat.zero_le _
  have ka0_0 : gw_kd S a0 = 11 := (hS0 0 _ rfl).1
  have ra0_0_0 : gw_rf S a0 0 = a0 + 1 := (hS0 0 _ rfl).2.2 (0, 1) (by decide)
  have ka0_1 : gw_kd S (a0 + 1) = 12 := (hS0 1 _ rfl).1
  have la0_1 : gw_ln S (a0 + 1) = 20813 := (hS0 1 _ rfl).2.1
  unfold F_X11_slice at h
  refine hK _ _ _ _ _ _ _ ?_
  rw [fdX11_slice_0]
  simp only [gt_nil, true_and, eq_self, gt_iload_n, gt_ink, gw_nth, gt_iconst, gt_bipush, gt_s1_0, gt_s2_0, gt_s3_0, gt_s4_0, gt_s1_1, gt_s2_1, gt_s3_1, gt_s4_1, gt_acpy, gt_if, gt_iret, gt_retz, bkX11_slice_0, ka0_0, ra0_0_0, ka0_1, la0_1, (show Int32.toNatClampNeg 11 = 11 from rfl)]
  obtain ⟨r_1, e_3, h⟩ := gw_bnd h
  refine ⟨rfl, 0, 0, hcc, hss, ok_X11_isIn e_3 ?_⟩
  intro hbr_1
  simp only [gt_nil, true_and, eq_self, gt_if, gt_iconst, gt_iret, gt_retz, Option.toList, List.cons_append, List.nil_append, Nat.add_zero, ka0_0, ra0_0_0, ka0_1, la0_1, (show Int32.toNatClampNeg 11 = 11 from rfl)]
  refine ⟨fun c_5 => ?_, fun c_5 => ?_⟩
  · replace h := gw_ifp h c_5
    refine hK _ _ _ _ _ _ _ ?_
    rw [fdX11_slice_12]
    simp only [gt_nil, true_and, eq_self, gt_aload_n, gt_rfk, gw_nth, gt_v0, gt_v1, gt_v2, gt_v3, gt_v4, gt_v5, gt_get_r, gt_get_i, gt_get_z, gt_bipush, gt_iload_n, gt_ink, gt_iastore, gt_iconst, gt_iret, gt_retz, bkX11_slice_12, ka0_0, ra0_0_0, ka0_1, la0_1, (show Int32.toNatClampNeg 11 = 11 from rfl)]
    obtain ⟨μ_7, e_8, h⟩ := gw_bnd h
    refine ⟨rfl, 0, 0, hcc, hss, ok_X11_keep hS0 e_8 ?_⟩
    simp only [gt_nil, true_and, eq_self, gt_aload_n, gt_rfk, gw_nth, gt_get_r, gt_get_i, gt_get_z, gt_bipush, gt_iload_n, gt_ink, gt_iastore, gt_v0, gt_v1, gt_v2, gt_v3, gt_v4, gt_v5, gt_iconst, gt_iret, gt_retz, Option.toList, List.cons_append, List.nil_append, Nat.add_zero, ka0_0, ra0_0_0, ka0_1, la0_1, (show Int32.toNatClampNeg 11 = 11 from rfl)]
    refine ⟨(⟨by decide, by decide⟩ : gw_in 11 20813), ?_⟩
    obtain ⟨μ_10, hμ_10, h⟩ := gw_lt h
    try rw [← hμ_10]
    obtain ⟨μ_12, e_13, h⟩ := gw_bnd h
    refine ⟨rfl, 0, 0, hcc, hss, ok_X11_dealOut hS0 e_13 ?_⟩
    simp only [gt_nil, true_and, eq_self, gt_iconst, gt_iret, gt_retz, Option.toList, List.cons_append, List.nil_append, Nat.add_zero, ka0_0, ra0_0_0, ka0_1, la0_1, (show Int32.toNatClampNeg 11 = 11 from rfl)]
    obtain ⟨rfl, rfl⟩ := gw_inj2 h
    exact ⟨(Or.inr rfl), hcc, hss, hq (Or.inr rfl)⟩
  · replace h := gw_ifn h c_5
    obtain ⟨rfl, rfl⟩ := gw_inj2 h
    exact ⟨(Or.inl rfl), hcc, hss, hq (Or.inl rfl)⟩
def F_X11_forget (n0 : Nat) (a0 : Nat) (μ : gw_M) : Option (Int32 × gw_M) := (F_X11_keep n0 a0 μ).bind (fun (μ_2 : gw_M) => (F_X11_many n0 (μ_2 (a0 + 1) 21) μ_2).bind (fun (r_5 : Int32) => gw_let (gw_up μ_2 (a0 + 1) 21 0) (fun (μ_9 : gw_M) => (F_X11_dealOut n0 a0 μ_9).bind (fun (μ_11 : gw_M) => some (r_5, μ_11)))))
theorem ok_X11_forget {l : Launch} {x : gw_C} {d : Nat} {S : gw_S} {Q : Option Value → gw_S → gw_M → Prop} {a0 : Nat} {n0 : Nat} {μ : gw_M} {r μ'} (hS0 : gw_sh S 11 a0) (h : F_X11_forget n0 a0 μ = some (r, μ')) (hq : Q (some (.int r)) S μ') : gw_ok l x (d + 5) sgX11_forget 0 0 [.ref a0] S μ Q := by
  refine gw_ok_of stX11_forget (lv0 := [.ref a0, .retAddr 0]) (Nat.le_of_ble_eq_true rfl) rfl rfl ?_
  intro K hK
  have hcc : 0 ≤ 0 := Nat.zero_le _
  have hss : 0 ≤ 0 := Nat.zero_le _
  have ka0_0 : gw_kd S a0 = 11 := (hS0 0 _ rfl).1
  have ra0_0_0 : gw_rf S a0 0 = a0 + 1 := (hS0 0 _ rfl).2.2 (0, 1) (by decide)
  have ka0_1 : gw_kd S (a0 + 1) = 12 := (hS0 1 _ rfl).1
  have la0_1 : gw_ln S (a0 + 1) = 20813 := (hS0 1 _ rfl).2.1
  unfold F_X11_forget at h
  refine hK _ _ _ _ _ _ _ ?_
  rw [fdX11_forget_0]
  simp only [gt_nil, true_and, eq_self, gt_aload_n, gt_rfk, gw_nth, gt_v0, gt_v1, gt_v2, gt_v3, gt_v4, gt_v5, gt_get_r, gt_get_i, gt_get_z, gt_bipush, gt_iaload, gt_s1_0, gt_s2_0, gt_s3_0, gt_s4_0, gt_s1_1, gt_s2_1, gt_s3_1, gt_s4_1, gt_acpy, gt_istore_n, gw_set, gt_iconst, gt_iastore, gt_iload_n, gt_ink, gt_iret, gt_retz, bkX11_forget_0, ka0_0, ra0_0_0, ka0_1, la0_1, (show Int32.toNatClampNeg 21 = 21 from rfl)]
  obtain ⟨μ_2, e_3, h⟩ := gw_bnd h
  refine ⟨rfl, 0, 0, hcc, hss, ok_X11_keep hS0 e_3 ?_⟩
  simp only [gt_nil, true_and, eq_self, gt_aload_n, gt_rfk, gw_nth, gt_get_r, gt_get_i, gt_get_z, gt_bipush, gt_iaload, gt_s1_0, gt_s2_0, gt_s3_0, gt_s4_0, gt_s1_1, gt_s2_1, gt_s3_1, gt_s4_1, gt_acpy, gt_istore_n, gw_set, gt_iconst, gt_iastore, gt_v0, gt_v1, gt_v2, gt_v3, gt_v4, gt_v5, gt_iload_n, gt_ink, gt_iret, gt_retz, Option.toList, List.cons_append, List.nil_append, Nat.add_zero, ka0_0, ra0_0_0, ka0_1, la0_1, (show Int32.toNatClampNeg 21 = 21 from rfl)]
  refine ⟨(⟨by decide, by decide⟩ : gw_in 21 20813), ?_⟩
  obtain ⟨r_5, e_7, h⟩ := gw_bnd h
  refine ⟨rfl, 0, 0, hcc, hss, ok_X11_many e_7 ?_⟩
  simp only [gt_nil, true_and, eq_self, gt_istore_n, gw_set, gt_aload_n, gt_rfk, gw_nth, gt_get_r, gt_get_i, gt_get_z, gt_bipush, gt_iconst, gt_iastore, gt_v0, gt_v1, gt_v2, gt_v3, gt_v4, gt_v5, gt_iload_n, gt_ink, gt_iret, gt_retz, Option.toList, List.cons_append, List.nil_append, Nat.add_zero, ka0_0, ra0_0_0, ka0_1, la0_1, (show Int32.toNatClampNeg 21 = 21 from rfl)]
  refine ⟨(⟨by decide, by decide⟩ : gw_in 21 20813), ?_⟩
  obtain ⟨μ_9, hμ_9, h⟩ := gw_lt h
  try rw [← hμ_9]
  obtain ⟨μ_11, e_12, h⟩ := gw_bnd h
  refine ⟨rfl, 0, 0, hcc, hss, ok_X11_dealOut hS0 e_12 ?_⟩
  simp only [gt_nil, true_and, eq_self, gt_iload_n, gt_ink, gw_nth, gt_iret, gt_retz, Option.toList, List.cons_append, List.nil_append, Nat.add_zero, ka0_0, ra0_0_0, ka0_1, la0_1, (show Int32.toNatClampNeg 21 = 21 from rfl)]
  obtain ⟨rfl, rfl⟩ := gw_inj2 h
  exact ⟨hcc, hss, hq⟩
def F_X11_pass_34 (n0 : Nat) (a0 : Nat) : Nat → Int32 → Int32 → Int32 → gw_M → Option (Int32 × gw_M)
  | 0, _, _, _, _ => none
  | n + 1, v1, v2, v3, μ => (if v1 ≤ v3 then some (v2, μ) else (gw_bi (F_X11_tick n0 a0 μ) (fun (r_2 : Int32) (μ_3 : gw_M) => gw_let ((v2 + r_2)) (fun (w_6 : Int32) => (F_X11_dealOut n0 a0 μ_3).bind (fun (μ_8 : gw_M) => gw_let (v3 + 1) (fun (w_11 : Int32) => F_X11_pass_34 n0 a0 n v1 w_6 w_11 μ_8))))))
def F_X11_pass (n0 : Nat) (a0 : Nat) (v1 : Int32) (μ : gw_M) : Option (Int32 × gw_M) := (F_X11_isIn n0 v1 1 200 μ).bind (fun (r_1 : Int32) => (if r_1 = 0 then some ((-1), μ) else (if ((μ (a0 + 1) 3) + v1) ≤ 99999 then (F_X11_keep n0 a0 μ).bind (fun (μ_8 : gw_M) => F_X11_pass_34 n0 a0 n0 v1 0 0 μ_8) else some ((-1), μ))))
theorem B_X11_pass_34 {l : Launch} {x : gw_C} {d : Nat} {S : gw_S} {Q : Option Value → gw_S → gw_M → Prop} {K : Nat → gw_Kt} {mc ms cc ss : Nat} (hcc : cc ≤ mc) (hss : ss ≤ ms) (hK : gw_cl l x (d + 5) mc ms bsX11_pass Q K) {a0 : Nat} (hS0 : gw_sh S 11 a0) {n0 : Nat} : ∀ {n : Nat} {v1 v2 v3} {μ : gw_M} {r μ'}, F_X11_pass_34 n0 a0 n v1 v2 v3 μ = some (r, μ') → Q (some (.int r)) S μ' → K 34 [.ref a0, .int v1, .int v2, .int v3] [] S μ cc ss := by
  have ka0_0 : gw_kd S a0 = 11 := (hS0 0 _ rfl).1
  intro n
  induction n with
  | zero => intro v1 v2 v3 μ r μ' h hq; simp [F_X11_pass_34] at h
  | succ n ih =>
    intro v1 v2 v3 μ r μ' h hq
    simp only [F_X11_pass_34] at h
    refine hK _ _ _ _ _ _ _ ?_
    rw [fdX11_pass_34]
    simp -implicitDefEqProofs only [gt_nil, true_and, eq_self, gt_iload_n, gt_ink, gw_nth, gt_icmp, gt_aload_n, gt_rfk, gt_v0, gt_v1, gt_v2, gt_v3, gt_v4, gt_v5, gt_iadd, gt_istore_n, gw_set, gt_iinc, gt_goto, bkX11_pass_34, ka0_0]
    refine ⟨fun c_1 => ?_, fun c_1 => ?_⟩
    · replace h := gw_ifp2 (gw_c2_ge _ _) h c_1
      refine hK _ _ _ _ _ _ _ ?_
      rw [fdX11_pass_56]
      simp -implicitDefEqProofs only [gt_nil, true_and, eq_self, gt_iload_n, gt_ink, gw_nth, gt_iret, gt_retz, bkX11_pass_56, ka0_0]
      obtain ⟨rfl, rfl⟩ := gw_inj2 h
      exact ⟨hcc, hss, hq⟩
    · replace h := gw_ifn2 (gw_c2_ge _ _) h c_1
      obtain ⟨r_2, μ_3, e_4, h⟩ := gw_bnd2 h
      refine ⟨rfl, 0, 0, hcc, hss, ok_X11_tick hS0 e_4 ?_⟩
      simp -implicitDefEqProofs only [gt_nil, true_and, eq_self, gt_iadd, gt_istore_n, gw_set, gt_aload_n, gt_rfk, gw_nth, gt_v0, gt_v1, gt_v2, gt_v3, gt_v4, gt_v5, gt_iinc, gt_ink, gt_goto, Option.toList, List.cons_append, List.nil_append, Nat.add_zero, ka0_0]
      obtain ⟨w_6, hw_6, h⟩ := gw_lt h
      try rw [← hw_6]
      obtain ⟨μ_8, e_9, h⟩ := gw_bnd h
      refine ⟨rfl, 0, 0, hcc, hss, ok_X11_dealOut hS0 e_9 ?_⟩
      simp -implicitDefEqProofs only [gt_nil, true_and, eq_self, gt_iinc, gt_ink, gw_nth, gw_set, gt_goto, Option.toList, List.cons_append, List.nil_append, Nat.add_zero, ka0_0]
      obtain ⟨w_11, hw_11, h⟩ := gw_lt h
      try rw [← hw_11]
      exact ih h hq
theorem ok_X11_pass {l : Launch} {x : gw_C} {d : Nat} {S : gw_S} {Q : Option Value → gw_S → gw_M → Prop} {v1 : Int32} {a0 : Nat} {n0 : Nat} {μ : gw_M} {r μ'} (hS0 : gw_sh S 11 a0) (h : F_X11_pass n0 a0 v1 μ = some (r, μ')) (hq : Q (some (.int r)) S μ') : gw_ok l x (d + 6) sgX11_pass 0 0 [.ref a0, .int v1] S μ Q := by
  refine gw_ok_of stX11_pass (lv0 := [.ref a0, .int v1, .retAddr 0, .retAddr 0]) (Nat.le_of_ble_eq_true rfl) rfl rfl ?_
  intro K hK
  have hcc : 0 ≤ 0 := Nat.zero_le _
  have hss : 0 ≤ 0 := Nat.zero_le _
  have ka0_0 : gw_kd S a0 = 11 := (hS0 0 _ rfl).1
  have ra0_0_0 : gw_rf S a0 0 = a0 + 1 := (hS0 0 _ rfl).2.2 (0, 1) (by decide)
  have ka0_1 : gw_kd S (a0 + 1) = 12 := (hS0 1 _ rfl).1
  have la0_1 : gw_ln S (a0 + 1) = 20813 := (hS0 1 _ rfl).2.1
  unfold F_X11_pass at h
  refine hK _ _ _ _ _ _ _ ?_
  rw [fdX11_pass_0]
  simp -implicitDefEqProofs only [gt_nil, true_and, eq_self, gt_iload_n, gt_ink, gw_nth, gt_iconst, gt_sipush, gt_s1_0, gt_s2_0, gt_s3_0, gt_s4_0, gt_s1_1, gt_s2_1, gt_s3_1, gt_s4_1, gt_acpy, gt_if, gt_aload_n, gt_rfk, gt_get_r, gt_get_i, gt_get_z, gt_iaload, gt_iadd, gt_ldc, gt_icmp, bkX11_pass_0, ka0_0, ra0_0_0, ka0_1, la0_1, (show Int32.toNatClampNeg 3 = 3 from rfl)]
  obtain ⟨r_1, e_3, h⟩ := gw_bnd h
  refine ⟨rfl, 0, 0, hcc, hss, ok_X11_isIn e_3 ?_⟩
  intro hbr_1
  simp -implicitDefEqProofs only [gt_nil, true_and, eq_self, gt_if, gt_aload_n, gt_rfk, gw_nth, gt_get_r, gt_get_i, gt_get_z, gt_iconst, gt_iaload, gt_iload_n, gt_ink, gt_iadd, gt_ldc, gt_icmp, Option.toList, List.cons_append, List.nil_append, Nat.add_zero, ka0_0, ra0_0_0, ka0_1, la0_1, (show Int32.toNatClampNeg 3 = 3 from rfl)]
  refine ⟨fun c_5 => ?_, fun c_5 => ?_⟩
  · replace h := gw_ifp h c_5
    refine hK _ _ _ _ _ _ _ ?_
    rw [fdX11_pass_24]
    simp -implicitDefEqProofs only [gt_nil, true_and, eq_self, gt_iconst, gt_iret, gt_retz, bkX11_pass_24, ka0_0, ra0_0_0, ka0_1, la0_1, (show Int32.toNatClampNeg 3 = 3 from rfl)]
    obtain ⟨rfl, rfl⟩ := gw_inj2 h
    exact ⟨hcc, hss, hq⟩
  · replace h := gw_ifn h c_5
    refine ⟨(⟨by decide, by decide⟩ : gw_in 3 20813), ?_⟩
    refine ⟨fun c_6 => ?_, fun c_6 => ?_⟩
    · replace h := gw_ifp2 (gw_c2_le _ _) h c_6
      refine hK _ _ _ _ _ _ _ ?_
      rw [fdX11_pass_26]
      simp -implicitDefEqProofs only [gt_nil, true_and, eq_self, gt_aload_n, gt_rfk, gw_nth, gt_v0, gt_v1, gt_v2, gt_v3, gt_v4, gt_v5, gt_iconst, gt_istore_n, gw_set, bkX11_pass_26, ka0_0, ra0_0_0, ka0_1, la0_1, (show Int32.toNatClampNeg 3 = 3 from rfl)]
      obtain ⟨μ_8, e_9, h⟩ := gw_bnd h
      refine ⟨rfl, 0, 0, hcc, hss, ok_X11_keep hS0 e_9 ?_⟩
      simp -implicitDefEqProofs only [gt_nil, true_and, eq_self, gt_iconst, gt_istore_n, gw_set, Option.toList, List.cons_append, List.nil_append, Nat.add_zero, ka0_0, ra0_0_0, ka0_1, la0_1, (show Int32.toNatClampNeg 3 = 3 from rfl)]
      exact B_X11_pass_34 hcc hss hK hS0 h hq
    · replace h := gw_ifn2 (gw_c2_le _ _) h c_6
      refine hK _ _ _ _ _ _ _ ?_
      rw [fdX11_pass_24]
      simp -implicitDefEqProofs only [gt_nil, true_and, eq_self, gt_iconst, gt_iret, gt_retz, bkX11_pass_24, ka0_0, ra0_0_0, ka0_1, la0_1, (show Int32.toNatClampNeg 3 = 3 from rfl)]
      obtain ⟨rfl, rfl⟩ := gw_inj2 h
      exact ⟨hcc, hss, hq⟩
def F_X11_needs_14 (n0 : Nat) (v0 : Int32) (v1 : Int32) (s0 : Int32) (s1 : Int32) (s2 : Int32) (μ : gw_M) : Option (Int32) := (F_X11_isIn n0 s0 s1 s2 μ).bind (fun (r_1 : Int32) => (if ¬ r_1 = 0 then (if v1 = (0 : Int32) then some 1 else (if v1 = ((0 : Int32) + 1) then some 2 else (if v1 = (((0 : Int32) + 1) + 1) then some 1 else (if v1 = ((((0 : Int32) + 1) + 1) + 1) then some 1 else (if v1 = (((((0 : Int32) + 1) + 1) + 1) + 1) then some 0 else (if v1 = ((((((0 : Int32) + 1) + 1) + 1) + 1) + 1) then some 0 else (if v1 = (((((((0 : Int32) + 1) + 1) + 1) + 1) + 1) + 1) then (if ¬ v0 = 1 then some 2 else some 0) else (if v1 = ((((((((0 : Int32) + 1) + 1) + 1) + 1) + 1) + 1) + 1) then (if ¬ v0 = 1 then some 0 else some 2) else (if v1 = (((((((((0 : Int32) + 1) + 1) + 1) + 1) + 1) + 1) + 1) + 1) then some 1 else (if v1 = ((((((((((0 : Int32) + 1) + 1) + 1) + 1) + 1) + 1) + 1) + 1) + 1) then (if ¬ v0 = 1 then some 0 else some 1) else (if v1 = (((((((((((0 : Int32) + 1) + 1) + 1) + 1) + 1) + 1) + 1) + 1) + 1) + 1) then some 0 else some 1))))))))))) else some (-1)))
def F_X11_needs (n0 : Nat) (v0 : Int32) (v1 : Int32) (μ : gw_M) : Option (Int32) := (if ¬ v0 = 1 then F_X11_needs_14 n0 v0 v1 v1 0 9 μ else F_X11_needs_14 n0 v0 v1 v1 0 11 μ)
theorem B_X11_needs_14 {l : Launch} {x : gw_C} {d : Nat} {S : gw_S} {Q : Option Value → gw_S → gw_M → Prop} {K : Nat → gw_Kt} {mc ms cc ss : Nat} (hcc : cc ≤ mc) (hss : ss ≤ ms) (hK : gw_cl l x (d + 1) mc ms bsX11_needs Q K) {n0 : Nat} {v0 v1 s0 s1 s2} {μ : gw_M} {r} (h : F_X11_needs_14 n0 v0 v1 s0 s1 s2 μ = some r) (hq : Q (some (.int r)) S μ) : K 14 [.int v0, .int v1] [.int s2, .int s1, .int s0] S μ cc ss := by
  unfold F_X11_needs_14 at h
  refine hK _ _ _ _ _ _ _ ?_
  rw [fdX11_needs_14]
  simp only [gt_nil, true_and, eq_self, gt_s1_0, gt_s2_0, gt_s3_0, gt_s4_0, gt_s1_1, gt_s2_1, gt_s3_1, gt_s4_1, gt_acpy, gt_if, gt_iconst, gt_iret, gt_retz, bkX11_needs_14]
  obtain ⟨r_1, e_3, h⟩ := gw_bnd h
  refine ⟨rfl, 0, 0, hcc, hss, ok_X11_isIn e_3 ?_⟩
  intro hbr_1
  simp only [gt_nil, true_and, eq_self, gt_if, gt_iconst, gt_iret, gt_retz, Option.toList, List.cons_append, List.nil_append, Nat.add_zero]
  refine ⟨fun c_5 => ?_, fun c_5 => ?_⟩
  · replace h := gw_ifp h c_5
    refine hK _ _ _ _ _ _ _ ?_
    rw [fdX11_needs_22]
    simp only [gt_nil, true_and, eq_self, gt_iload_n, gt_ink, gw_nth, gt_tsw, gw_sw, bkX11_needs_22]
    refine ⟨fun c_6 => ?_, fun c_6 => ?_⟩
    · replace h := gw_ifp h c_6
      refine hK _ _ _ _ _ _ _ ?_
      rw [fdX11_needs_80]
      simp only [gt_nil, true_and, eq_self, gt_iconst, gt_iret, gt_retz, bkX11_needs_80]
      obtain rfl := gw_inj1 h
      exact ⟨hcc, hss, hq⟩
    replace h := gw_ifn h c_6
    refine ⟨fun c_7 => ?_, fun c_7 => ?_⟩
    · replace h := gw_ifp h c_7
      refine hK _ _ _ _ _ _ _ ?_
      rw [fdX11_needs_82]
      simp only [gt_nil, true_and, eq_self, gt_iconst, gt_iret, gt_retz, bkX11_needs_82]
      obtain rfl := gw_inj1 h
      exact ⟨hcc, hss, hq⟩
    replace h := gw_ifn h c_7
    refine ⟨fun c_8 => ?_, fun c_8 => ?_⟩
    · replace h := gw_ifp h c_8
      refine hK _ _ _ _ _ _ _ ?_
      rw [fdX11_needs_80]
      simp only [gt_nil, true_and, eq_self, gt_iconst, gt_iret, gt_retz, bkX11_needs_80]
      obtain rfl := gw_inj1 h
      exact ⟨hcc, hss, hq⟩
    replace h := gw_ifn h c_8
    refine ⟨fun c_9 => ?_, fun c_9 => ?_⟩
    · replace h := gw_ifp h c_9
      refine hK _ _ _ _ _ _ _ ?_
      rw [fdX11_needs_80]
      simp only [gt_nil, true_and, eq_self, gt_iconst, gt_iret, gt_retz, bkX11_needs_80]
      obtain rfl := gw_inj1 h
      exact ⟨hcc, hss, hq⟩
    replace h := gw_ifn h c_9
    refine ⟨fun c_10 => ?_, fun c_10 => ?_⟩
    · replace h := gw_ifp h c_10
      refine hK _ _ _ _ _ _ _ ?_
      rw [fdX11_needs_84]
      simp only [gt_nil, true_and, eq_self, gt_iconst, gt_iret, gt_retz, bkX11_needs_84]
      obtain rfl := gw_inj1 h
      exact ⟨hcc, hss, hq⟩
    replace h := gw_ifn h c_10
    refine ⟨fun c_11 => ?_, fun c_11 => ?_⟩
    · replace h := gw_ifp h c_11
      refine hK _ _ _ _ _ _ _ ?_
      rw [fdX11_needs_84]
      simp only [gt_nil, true_and, eq_self, gt_iconst, gt_iret, gt_retz, bkX11_needs_84]
      obtain rfl := gw_inj1 h
      exact ⟨hcc, hss, hq⟩
    replace h := gw_ifn h c_11
    refine ⟨fun c_12 => ?_, fun c_12 => ?_⟩
    · replace h := gw_ifp h c_12
      refine hK _ _ _ _ _ _ _ ?_
      rw [fdX11_needs_86]
      simp only [gt_nil, true_and, eq_self, gt_iload_n, gt_ink, gw_nth, gt_iconst, gt_icmp, gt_goto, bkX11_needs_86]
      refine ⟨fun c_13 => ?_, fun c_13 => ?_⟩
      · replace h := gw_ifp2 (gw_c2_ne _ _) h c_13
        refine hK _ _ _ _ _ _ _ ?_
        rw [fdX11_needs_95]
        simp only [gt_nil, true_and, eq_self, gt_iconst, bkX11_needs_95]
        refine hK _ _ _ _ _ _ _ ?_
        rw [fdX11_needs_96]
        simp only [gt_nil, true_and, eq_self, gt_iret, gt_retz, bkX11_needs_96]
        obtain rfl := gw_inj1 h
        exact ⟨hcc, hss, hq⟩
      · replace h := gw_ifn2 (gw_c2_ne _ _) h c_13
        refine hK _ _ _ _ _ _ _ ?_
        rw [fdX11_needs_96]
        simp only [gt_nil, true_and, eq_self, gt_iret, gt_retz, bkX11_needs_96]
        obtain rfl := gw_inj1 h
        exact ⟨hcc, hss, hq⟩
    replace h := gw_ifn h c_12
    refine ⟨fun c_14 => ?_, fun c_14 => ?_⟩
    · replace h := gw_ifp h c_14
      refine hK _ _ _ _ _ _ _ ?_
      rw [fdX11_needs_97]
      simp only [gt_nil, true_and, eq_self, gt_iload_n, gt_ink, gw_nth, gt_iconst, gt_icmp, gt_goto, bkX11_needs_97]
      refine ⟨fun c_15 => ?_, fun c_15 => ?_⟩
      · replace h := gw_ifp2 (gw_c2_ne _ _) h c_15
        refine hK _ _ _ _ _ _ _ ?_
        rw [fdX11_needs_106]
        simp only [gt_nil, true_and, eq_self, gt_iconst, bkX11_needs_106]
        refine hK _ _ _ _ _ _ _ ?_
        rw [fdX11_needs_107]
        simp only [gt_nil, true_and, eq_self, gt_iret, gt_retz, bkX11_needs_107]
        obtain rfl := gw_inj1 h
        exact ⟨hcc, hss, hq⟩
      · replace h := gw_ifn2 (gw_c2_ne _ _) h c_15
        refine hK _ _ _ _ _ _ _ ?_
        rw [fdX11_needs_107]
        simp only [gt_nil, true_and, eq_self, gt_iret, gt_retz, bkX11_needs_107]
        obtain rfl := gw_inj1 h
        exact ⟨hcc, hss, hq⟩
    replace h := gw_ifn h c_14
    refine ⟨fun c_16 => ?_, fun c_16 => ?_⟩
    · replace h := gw_ifp h c_16
      refine hK _ _ _ _ _ _ _ ?_
      rw [fdX11_needs_121]
      simp only [gt_nil, true_and, eq_self, gt_iconst, gt_iret, gt_retz, bkX11_needs_121]
      obtain rfl := gw_inj1 h
      exact ⟨hcc, hss, hq⟩
    replace h := gw_ifn h c_16
    refine ⟨fun c_17 => ?_, fun c_17 => ?_⟩
    · replace h := gw_ifp h c_17
      refine hK _ _ _ _ _ _ _ ?_
      rw [fdX11_needs_108]
      simp only [gt_nil, true_and, eq_self, gt_iload_n, gt_ink, gw_nth, gt_iconst, gt_icmp, gt_goto, bkX11_needs_108]
      refine ⟨fun c_18 => ?_, fun c_18 => ?_⟩
      · replace h := gw_ifp2 (gw_c2_ne _ _) h c_18
        refine hK _ _ _ _ _ _ _ ?_
        rw [fdX11_needs_117]
        simp only [gt_nil, true_and, eq_self, gt_iconst, bkX11_needs_117]
        refine hK _ _ _ _ _ _ _ ?_
        rw [fdX11_needs_118]
        simp only [gt_nil, true_and, eq_self, gt_iret, gt_retz, bkX11_needs_118]
        obtain rfl := gw_inj1 h
        exact ⟨hcc, hss, hq⟩
      · replace h := gw_ifn2 (gw_c2_ne _ _) h c_18
        refine hK _ _ _ _ _ _ _ ?_
        rw [fdX11_needs_118]
        simp only [gt_nil, true_and, eq_self, gt_iret, gt_retz, bkX11_needs_118]
        obtain rfl := gw_inj1 h
        exact ⟨hcc, hss, hq⟩
    replace h := gw_ifn h c_17
    refine ⟨fun c_19 => ?_, fun c_19 => ?_⟩
    · replace h := gw_ifp h c_19
      refine hK _ _ _ _ _ _ _ ?_
      rw [fdX11_needs_119]
      simp only [gt_nil, true_and, eq_self, gt_iconst, gt_iret, gt_retz, bkX11_needs_119]
      obtain rfl := gw_inj1 h
      exact ⟨hcc, hss, hq⟩
    replace h := gw_ifn h c_19
    refine hK _ _ _ _ _ _ _ ?_
    rw [fdX11_needs_121]
    simp only [gt_nil, true_and, eq_self, gt_iconst, gt_iret, gt_retz, bkX11_needs_121]
    obtain rfl := gw_inj1 h
    exact ⟨hcc, hss, hq⟩
  · replace h := gw_ifn h c_5
    obtain rfl := gw_inj1 h
    exact ⟨hcc, hss, hq⟩
theorem ok_X11_needs {l : Launch} {x : gw_C} {d : Nat} {S : gw_S} {Q : Option Value → gw_S → gw_M → Prop} {v0 v1 : Int32} {n0 : Nat} {μ : gw_M} {r} (h : F_X11_needs n0 v0 v1 μ = some r) (hq : Q (some (.int r)) S μ) : gw_ok l x (d + 2) sgX11_needs 0 0 [.int v0, .int v1] S μ Q := by
  refine gw_ok_of stX11_needs (lv0 := [.int v0, .int v1]) (Nat.le_of_ble_eq_true rfl) rfl rfl ?_
  intro K hK
  have hcc : 0 ≤ 0 := Nat.zero_le _
  have hss : 0 ≤ 0 := Nat.zero_le _
  unfold F_X11_needs at h
  refine hK _ _ _ _ _ _ _ ?_
  rw [fdX11_needs_0]
  simp only [gt_nil, true_and, eq_self, gt_iload_n, gt_ink, gw_nth, gt_iconst, gt_icmp, gt_bipush, gt_goto, bkX11_needs_0]
  refine ⟨fun c_1 => ?_, fun c_1 => ?_⟩
  · replace h := gw_ifp2 (gw_c2_ne _ _) h c_1
    refine hK _ _ _ _ _ _ _ ?_
    rw [fdX11_needs_12]
    simp only [gt_nil, true_and, eq_self, gt_bipush, bkX11_needs_12]
    exact B_X11_needs_14 hcc hss hK h hq
  · replace h := gw_ifn2 (gw_c2_ne _ _) h c_1
    exact B_X11_needs_14 hcc hss hK h hq
def F_X11_isAct_95 (n0 : Nat) (μ : gw_M) : Option (Int32) := some 0
def F_X11_isAct_85 (n0 : Nat) (s0 : Int32) (s1 : Int32) (s2 : Int32) (μ : gw_M) : Option (Int32) := (F_X11_isIn n0 s0 s1 s2 μ).bind (fun (r_1 : Int32) => (if r_1 = 0 then F_X11_isAct_95 n0 μ else some 1))
def F_X11_isAct_65 (n0 : Nat) (v3 : Int32) (v4 : Int32) (v6 : Int32) (s0 : Int32) (s1 : Int32) (s2 : Int32) (μ : gw_M) : Option (Int32) := (F_X11_isIn n0 s0 s1 s2 μ).bind (fun (r_1 : Int32) => (if r_1 = 0 then F_X11_isAct_95 n0 μ else (if v4 ≤ 1 then F_X11_isAct_85 n0 v3 0 0 μ else F_X11_isAct_85 n0 v3 0 v6 μ)))
def F_X11_isAct_44 (n0 : Nat) (v2 : Int32) (v3 : Int32) (v4 : Int32) (v5 : Int32) (s0 : Int32) (μ : gw_M) : Option (Int32) := (if v4 = (-1) then F_X11_isAct_95 n0 μ else (if v4 ≤ 0 then F_X11_isAct_65 n0 v3 v4 s0 v2 0 0 μ else F_X11_isAct_65 n0 v3 v4 s0 v2 0 v5 μ))
def F_X11_isAct_29 (n0 : Nat) (v1 : Int32) (v2 : Int32) (v3 : Int32) (v4 : Int32) (s0 : Int32) (μ : gw_M) : Option (Int32) := (if ¬ v1 = 1 then F_X11_isAct_44 n0 v2 v3 v4 s0 15 μ else F_X11_isAct_44 n0 v2 v3 v4 s0 9999 μ)
def F_X11_isAct (n0 : Nat) (v0 : Int32) (v1 : Int32) (v2 : Int32) (v3 : Int32) (μ : gw_M) : Option (Int32) := (F_X11_needs n0 v0 v1 μ).bind (fun (r_1 : Int32) => (if ¬ v1 = 3 then (if ¬ v1 = 11 then F_X11_isAct_29 n0 v1 v2 v3 r_1 15 μ else F_X11_isAct_29 n0 v1 v2 v3 r_1 2 μ) else F_X11_isAct_29 n0 v1 v2 v3 r_1 7 μ))
theorem B_X11_isAct_95 {l : Launch} {x : gw_C} {d : Nat} {S : gw_S} {Q : Option Value → gw_S → gw_M → Prop} {K : Nat → gw_Kt} {mc ms cc ss : Nat} (hcc : cc ≤ mc) (hss : ss ≤ ms) (hK : gw_cl l x (d + 2) mc ms bsX11_isAct Q K) {n0 : Nat}  {u0 u1 u2 u3 u4 u5 u6 : Value} {μ : gw_M} {r} (h : F_X11_isAct_95 n0 μ = some r) (hq : ((r = 0 ∨ r = 1) → Q (some (.int r)) S μ)) : K 95 [u0, u1, u2, u3, u4, u5, u6] [] S μ cc ss := by
  unfold F_X11_isAct_95 at h
  refine hK _ _ _ _ _ _ _ ?_
  rw [fdX11_isAct_95]
  simp only [gt_nil, true_and, eq_self, gt_iconst, bkX11_isAct_95]
  refine hK _ _ _ _ _ _ _ ?_
  rw [fdX11_isAct_96]
  simp only [gt_nil, true_and, eq_self, gt_iret, gt_retz, bkX11_isAct_96]
  obtain rfl := gw_inj1 h
  exact ⟨(Or.inl rfl), hcc, hss, hq (Or.inl rfl)⟩
theorem B_X11_isAct_85 {l : Launch} {x : gw_C} {d : Nat} {S : gw_S} {Q : Option Value → gw_S → gw_M → Prop} {K : Nat → gw_Kt} {mc ms cc ss : Nat} (hcc : cc ≤ mc) (hss : ss ≤ ms) (hK : gw_cl l x (d + 2) mc ms bsX11_isAct Q K) {n0 : Nat} {s0 s1 s2} {u0 u1 u2 u3 u4 u5 u6 : Value} {μ : gw_M} {r} (h : F_X11_isAct_85 n0 s0 s1 s2 μ = some r) (hq : ((r = 0 ∨ r = 1) → Q (some (.int r)) S μ)) : K 85 [u0, u1, u2, u3, u4, u5, u6] [.int s2, .int s1, .int s0] S μ cc ss := by
  unfold F_X11_isAct_85 at h
  refine hK _ _ _ _ _ _ _ ?_
  rw [fdX11_isAct_85]
  simp only [gt_nil, true_and, eq_self, gt_s1_0, gt_s2_0, gt_s3_0, gt_s4_0, gt_s1_1, gt_s2_1, gt_s3_1, gt_s4_1, gt_acpy, gt_if, gt_iconst, gt_goto, bkX11_isAct_85]
  obtain ⟨r_1, e_3, h⟩ := gw_bnd h
  refine ⟨rfl, 0, 0, hcc, hss, ok_X11_isIn e_3 ?_⟩
  intro hbr_1
  simp only [gt_nil, true_and, eq_self, gt_if, gt_iconst, gt_goto, Option.toList, List.cons_append, List.nil_append, Nat.add_zero]
  refine ⟨fun c_5 => ?_, fun c_5 => ?_⟩
  · replace h := gw_ifp h c_5
    exact B_X11_isAct_95 hcc hss hK h hq
  · replace h := gw_ifn h c_5
    refine hK _ _ _ _ _ _ _ ?_
    rw [fdX11_isAct_96]
    simp only [gt_nil, true_and, eq_self, gt_iret, gt_retz, bkX11_isAct_96]
    obtain rfl := gw_inj1 h
    exact ⟨(Or.inr rfl), hcc, hss, hq (Or.inr rfl)⟩
theorem B_X11_isAct_65 {l : Launch} {x : gw_C} {d : Nat} {S : gw_S} {Q : Option Value → gw_S → gw_M → Prop} {K : Nat → gw_Kt} {mc ms cc ss : Nat} (hcc : cc ≤ mc) (hss : ss ≤ ms) (hK : gw_cl l x (d + 2) mc ms bsX11_isAct Q K) {n0 : Nat} {v3 v4 v6 s0 s1 s2} {u0 u1 u2 u5 : Value} {μ : gw_M} {r} (h : F_X11_isAct_65 n0 v3 v4 v6 s0 s1 s2 μ = some r) (hq : ((r = 0 ∨ r = 1) → Q (some (.int r)) S μ)) : K 65 [u0, u1, u2, .int v3, .int v4, u5, .int v6] [.int s2, .int s1, .int s0] S μ cc ss := by
  unfold F_X11_isAct_65 at h
  refine hK _ _ _ _ _ _ _ ?_
  rw [fdX11_isAct_65]
  simp only [gt_nil, true_and, eq_self, gt_s1_0, gt_s2_0, gt_s3_0, gt_s4_0, gt_s1_1, gt_s2_1, gt_s3_1, gt_s4_1, gt_acpy, gt_if, gt_iload_n, gt_ink, gw_nth, gt_iconst, gt_iload, gt_icmp, gt_goto, bkX11_isAct_65]
  obtain ⟨r_1, e_3, h⟩ := gw_bnd h
  refine ⟨rfl, 0, 0, hcc, hss, ok_X11_isIn e_3 ?_⟩
  intro hbr_1
  simp only [gt_nil, true_and, eq_self, gt_if, gt_iload_n, gt_ink, gw_nth, gt_iconst, gt_iload, gt_icmp, gt_goto, Option.toList, List.cons_append, List.nil_append, Nat.add_zero]
  refine ⟨fun c_5 => ?_, fun c_5 => ?_⟩
  · replace h := gw_ifp h c_5
    exact B_X11_isAct_95 hcc hss hK h hq
  · replace h := gw_ifn h c_5
    refine ⟨fun c_6 => ?_, fun c_6 => ?_⟩
    · replace h := gw_ifp2 (gw_c2_le _ _) h c_6
      refine hK _ _ _ _ _ _ _ ?_
      rw [fdX11_isAct_84]
      simp only [gt_nil, true_and, eq_self, gt_iconst, bkX11_isAct_84]
      exact B_X11_isAct_85 hcc hss hK h hq
    · replace h := gw_ifn2 (gw_c2_le _ _) h c_6
      exact B_X11_isAct_85 hcc hss hK h hq
theorem B_X11_isAct_44 {l : Launch} {x : gw_C} {d : Nat} {S : gw_S} {Q : Option Value → gw_S → gw_M → Prop} {K : Nat → gw_Kt} {mc ms cc ss : Nat} (hcc : cc ≤ mc) (hss : ss ≤ ms) (hK : gw_cl l x (d + 2) mc ms bsX11_isAct Q K) {n0 : Nat} {v2 v3 v4 v5 s0} {u0 u1 u6 : Value} {μ : gw_M} {r} (h : F_X11_isAct_44 n0 v2 v3 v4 v5 s0 μ = some r) (hq : ((r = 0 ∨ r = 1) → Q (some (.int r)) S μ)) : K 44 [u0, u1, .int v2, .int v3, .int v4, .int v5, u6] [.int s0] S μ cc ss := by
  unfold F_X11_isAct_44 at h
  refine hK _ _ _ _ _ _ _ ?_
  rw [fdX11_isAct_44]
  simp only [gt_nil, true_and, eq_self, gt_istore, gw_set, gt_iload, gt_ink, gw_nth, gt_iconst, gt_icmp, gt_iload_n, gt_if, gt_goto, bkX11_isAct_44]
  refine ⟨fun c_1 => ?_, fun c_1 => ?_⟩
  · replace h := gw_ifp2 (gw_c2_eq _ _) h c_1
    exact B_X11_isAct_95 hcc hss hK h hq
  · replace h := gw_ifn2 (gw_c2_eq _ _) h c_1
    refine ⟨fun c_2 => ?_, fun c_2 => ?_⟩
    · replace h := gw_ifp h c_2
      refine hK _ _ _ _ _ _ _ ?_
      rw [fdX11_isAct_64]
      simp only [gt_nil, true_and, eq_self, gt_iconst, bkX11_isAct_64]
      exact B_X11_isAct_65 hcc hss hK h hq
    · replace h := gw_ifn h c_2
      exact B_X11_isAct_65 hcc hss hK h hq
theorem B_X11_isAct_29 {l : Launch} {x : gw_C} {d : Nat} {S : gw_S} {Q : Option Value → gw_S → gw_M → Prop} {K : Nat → gw_Kt} {mc ms cc ss : Nat} (hcc : cc ≤ mc) (hss : ss ≤ ms) (hK : gw_cl l x (d + 2) mc ms bsX11_isAct Q K) {n0 : Nat} {v1 v2 v3 v4 s0} {u0 u5 u6 : Value} {μ : gw_M} {r} (h : F_X11_isAct_29 n0 v1 v2 v3 v4 s0 μ = some r) (hq : ((r = 0 ∨ r = 1) → Q (some (.int r)) S μ)) : K 29 [u0, .int v1, .int v2, .int v3, .int v4, u5, u6] [.int s0] S μ cc ss := by
  unfold F_X11_isAct_29 at h
  refine hK _ _ _ _ _ _ _ ?_
  rw [fdX11_isAct_29]
  simp only [gt_nil, true_and, eq_self, gt_istore, gw_set, gt_iload_n, gt_ink, gw_nth, gt_iconst, gt_icmp, gt_sipush, gt_goto, bkX11_isAct_29]
  refine ⟨fun c_1 => ?_, fun c_1 => ?_⟩
  · replace h := gw_ifp2 (gw_c2_ne _ _) h c_1
    refine hK _ _ _ _ _ _ _ ?_
    rw [fdX11_isAct_42]
    simp only [gt_nil, true_and, eq_self, gt_bipush, bkX11_isAct_42]
    exact B_X11_isAct_44 hcc hss hK h hq
  · replace h := gw_ifn2 (gw_c2_ne _ _) h c_1
    exact B_X11_isAct_44 hcc hss hK h hq
theorem ok_X11_isAct {l : Launch} {x : gw_C} {d : Nat} {S : gw_S} {Q : Option Value → gw_S → gw_M → Prop} {v0 v1 v2 v3 : Int32} {n0 : Nat} {μ : gw_M} {r} (h : F_X11_isAct n0 v0 v1 v2 v3 μ = some r) (hq : ((r = 0 ∨ r = 1) → Q (some (.int r)) S μ)) : gw_ok l x (d + 3) sgX11_isAct 0 0 [.int v0, .int v1, .int v2, .int v3] S μ Q := by
  refine gw_ok_of stX11_isAct (lv0 := [.int v0, .int v1, .int v2, .int v3, .retAddr 0, .retAddr 0, .retAddr 0]) (Nat.le_of_ble_eq_true rfl) rfl rfl ?_
  intro K hK
  have hcc : 0 ≤ 0 := Nat.zero_le _
  have hss : 0 ≤ 0 := Nat.zero_le _
  unfold F_X11_isAct at h
  refine hK _ _ _ _ _ _ _ ?_
  rw [fdX11_isAct_0]
  simp only [gt_nil, true_and, eq_self, gt_iload_n, gt_ink, gw_nth, gt_s1_0, gt_s2_0, gt_s3_0, gt_s4_0, gt_s1_1, gt_s2_1, gt_s3_1, gt_s4_1, gt_acpy, gt_istore, gw_set, gt_iconst, gt_icmp, gt_bipush, gt_goto, bkX11_isAct_0]
  obtain ⟨r_1, e_3, h⟩ := gw_bnd h
  refine ⟨rfl, 0, 0, hcc, hss, ok_X11_needs e_3 ?_⟩
  simp only [gt_nil, true_and, eq_self, gt_istore, gw_set, gt_iload_n, gt_ink, gw_nth, gt_iconst, gt_icmp, gt_bipush, gt_goto, Option.toList, List.cons_append, List.nil_append, Nat.add_zero]
  refine ⟨fun c_5 => ?_, fun c_5 => ?_⟩
  · replace h := gw_ifp2 (gw_c2_ne _ _) h c_5
    refine hK _ _ _ _ _ _ _ ?_
    rw [fdX11_isAct_17]
    simp only [gt_nil, true_and, eq_self, gt_iload_n, gt_ink, gw_nth, gt_bipush, gt_icmp, gt_iconst, gt_goto, bkX11_isAct_17]
    refine ⟨fun c_6 => ?_, fun c_6 => ?_⟩
    · replace h := gw_ifp2 (gw_c2_ne _ _) h c_6
      refine hK _ _ _ _ _ _ _ ?_
      rw [fdX11_isAct_27]
      simp only [gt_nil, true_and, eq_self, gt_bipush, bkX11_isAct_27]
      exact B_X11_isAct_29 hcc hss hK h hq
    · replace h := gw_ifn2 (gw_c2_ne _ _) h c_6
      exact B_X11_isAct_29 hcc hss hK h hq
  · replace h := gw_ifn2 (gw_c2_ne _ _) h c_5
    exact B_X11_isAct_29 hcc hss hK h hq
def F_X11_act (n0 : Nat) (a0 : Nat) (v1 : Int32) (v2 : Int32) (v3 : Int32) (v4 : Int32) (μ : gw_M) : Option (Int32 × gw_M) := (F_X11_isGuest n0 v1 μ).bind (fun (r_1 : Int32) => (if r_1 = 0 then some ((-1), μ) else (F_X11_isAct n0 v1 v2 v3 v4 μ).bind (fun (r_6 : Int32) => (if r_6 = 0 then some ((-1), μ) else (F_X11_guestAt n0 a0 v1 μ).bind (fun (r_11 : Int32) => (if 0 ≤ (r_11 + (6 : Int32)) ∧ (r_11 + (6 : Int32)).toNatClampNeg < 20813 then (if ¬ (μ (a0 + 1) (r_11 + (6 : Int32)).toNatClampNeg) = 24 then (F_X11_keep n0 a0 μ).bind (fun (μ_18 : gw_M) => (F_X11_guestAt n0 a0 v1 μ_18).bind (fun (r_21 : Int32) => (if 0 ≤ (r_21 + (6 : Int32)) ∧ (r_21 + (6 : Int32)).toNatClampNeg < 20813 then gw_let (((r_21 + (7 : Int32)) + ((3 : Int32) * (μ_18 (a0 + 1) (r_21 + (6 : Int32)).toNatClampNeg)))) (fun (w_26 : Int32) => (if 0 ≤ w_26 ∧ w_26.toNatClampNeg < 20813 then gw_let (gw_up μ_18 (a0 + 1) w_26.toNatClampNeg v2) (fun (μ_28 : gw_M) => (if 0 ≤ (w_26 + (1 : Int32)) ∧ (w_26 + (1 : Int32)).toNatClampNeg < 20813 then gw_let (gw_up μ_28 (a0 + 1) (w_26 + (1 : Int32)).toNatClampNeg v3) (fun (μ_30 : gw_M) => (if 0 ≤ (w_26 + (2 : Int32)) ∧ (w_26 + (2 : Int32)).toNatClampNeg < 20813 then gw_let (gw_up μ_30 (a0 + 1) (w_26 + (2 : Int32)).toNatClampNeg v4) (fun (μ_32 : gw_M) => (if 0 ≤ (r_21 + (6 : Int32)) ∧ (r_21 + (6 : Int32)).toNatClampNeg < 20813 then (if 0 ≤ (r_21 + (6 : Int32)) ∧ (r_21 + (6 : Int32)).toNatClampNeg < 20813 then gw_let (gw_up μ_32 (a0 + 1) (r_21 + (6 : Int32)).toNatClampNeg ((μ_32 (a0 + 1) (r_21 + (6 : Int32)).toNatClampNeg) + (1 : Int32))) (fun (μ_35 : gw_M) => (if 0 ≤ (r_21 + (6 : Int32)) ∧ (r_21 + (6 : Int32)).toNatClampNeg < 20813 then gw_let ((μ_35 (a0 + 1) (r_21 + (6 : Int32)).toNatClampNeg)) (fun (w_37 : Int32) => (F_X11_dealOut n0 a0 μ_35).bind (fun (μ_39 : gw_M) => some (w_37, μ_39))) else none)) else none) else none)) else none)) else none)) else none)) else none))) else some ((-1), μ)) else none))))))
theorem ok_X11_act {l : Launch} {x : gw_C} {d : Nat} {S : gw_S} {Q : Option Value → gw_S → gw_M → Prop} {v1 v2 v3 v4 : Int32} {a0 : Nat} {n0 : Nat} {μ : gw_M} {r μ'} (hS0 : gw_sh S 11 a0) (h : F_X11_act n0 a0 v1 v2 v3 v4 μ = some (r, μ')) (hq : Q (some (.int r)) S μ') : gw_ok l x (d + 5) sgX11_act 0 0 [.ref a0, .int v1, .int v2, .int v3, .int v4] S μ Q := by
  refine gw_ok_of stX11_act (lv0 := [.ref a0, .int v1, .int v2, .int v3, .int v4, .retAddr 0, .retAddr 0, .retAddr 0]) (Nat.le_of_ble_eq_true rfl) rfl rfl ?_
  intro K hK
  have hcc : 0 ≤ 0 := Nat.zero_le _
  have hss : 0 ≤ 0 := Nat.zero_le _
  have ka0_0 : gw_kd S a0 = 11 := (hS0 0 _ rfl).1
  have ra0_0_0 : gw_rf S a0 0 = a0 + 1 := (hS0 0 _ rfl).2.2 (0, 1) (by decide)
  have ka0_1 : gw_kd S (a0 + 1) = 12 := (hS0 1 _ rfl).1
  have la0_1 : gw_ln S (a0 + 1) = 20813 := (hS0 1 _ rfl).2.1
  unfold F_X11_act at h
  refine hK _ _ _ _ _ _ _ ?_
  rw [fdX11_act_0]
  simp only [gt_nil, true_and, eq_self, gt_iload_n, gt_ink, gw_nth, gt_s1_0, gt_s2_0, gt_s3_0, gt_s4_0, gt_s1_1, gt_s2_1, gt_s3_1, gt_s4_1, gt_acpy, gt_if, gt_iload, gt_aload_n, gt_rfk, gt_get_r, gt_get_i, gt_get_z, gt_v0, gt_v1, gt_v2, gt_v3, gt_v4, gt_v5, gt_bipush, gt_iadd, gt_iaload, gt_icmp, bkX11_act_0, ka0_0, ra0_0_0, ka0_1, la0_1]
  obtain ⟨r_1, e_3, h⟩ := gw_bnd h
  refine ⟨rfl, 0, 0, hcc, hss, ok_X11_isGuest e_3 ?_⟩
  intro hbr_1
  simp only [gt_nil, true_and, eq_self, gt_if, gt_iload_n, gt_ink, gw_nth, gt_iload, gt_s1_0, gt_s2_0, gt_s3_0, gt_s4_0, gt_s1_1, gt_s2_1, gt_s3_1, gt_s4_1, gt_acpy, gt_aload_n, gt_rfk, gt_get_r, gt_get_i, gt_get_z, gt_v0, gt_v1, gt_v2, gt_v3, gt_v4, gt_v5, gt_bipush, gt_iadd, gt_iaload, gt_icmp, Option.toList, List.cons_append, List.nil_append, Nat.add_zero, ka0_0, ra0_0_0, ka0_1, la0_1]
  refine ⟨fun c_5 => ?_, fun c_5 => ?_⟩
  · replace h := gw_ifp h c_5
    refine hK _ _ _ _ _ _ _ ?_
    rw [fdX11_act_36]
    simp only [gt_nil, true_and, eq_self, gt_iconst, gt_iret, gt_retz, bkX11_act_36, ka0_0, ra0_0_0, ka0_1, la0_1]
    obtain ⟨rfl, rfl⟩ := gw_inj2 h
    exact ⟨hcc, hss, hq⟩
  · replace h := gw_ifn h c_5
    obtain ⟨r_6, e_8, h⟩ := gw_bnd h
    refine ⟨rfl, 0, 0, hcc, hss, ok_X11_isAct e_8 ?_⟩
    intro hbr_6
    simp only [gt_nil, true_and, eq_self, gt_if, gt_aload_n, gt_rfk, gw_nth, gt_get_r, gt_get_i, gt_get_z, gt_iload_n, gt_ink, gt_v0, gt_v1, gt_v2, gt_v3, gt_v4, gt_v5, gt_bipush, gt_iadd, gt_iaload, gt_icmp, Option.toList, List.cons_append, List.nil_append, Nat.add_zero, ka0_0, ra0_0_0, ka0_1, la0_1]
    refine ⟨fun c_10 => ?_, fun c_10 => ?_⟩
    · replace h := gw_ifp h c_10
      refine hK _ _ _ _ _ _ _ ?_
      rw [fdX11_act_36]
      simp only [gt_nil, true_and, eq_self, gt_iconst, gt_iret, gt_retz, bkX11_act_36, ka0_0, ra0_0_0, ka0_1, la0_1]
      obtain ⟨rfl, rfl⟩ := gw_inj2 h
      exact ⟨hcc, hss, hq⟩
    · replace h := gw_ifn h c_10
      obtain ⟨r_11, e_13, h⟩ := gw_bnd h
      refine ⟨rfl, 0, 0, hcc, hss, ok_X11_guestAt hS0 e_13 ?_⟩
      simp only [gt_nil, true_and, eq_self, gt_bipush, gt_iadd, gt_iaload, gt_icmp, Option.toList, List.cons_append, List.nil_append, Nat.add_zero, ka0_0, ra0_0_0, ka0_1, la0_1]
      obtain ⟨c_15, h⟩ := gw_ife h
      refine ⟨c_15, ?_⟩
      refine ⟨fun c_16 => ?_, fun c_16 => ?_⟩
      · replace h := gw_ifp2 (gw_c2_ne _ _) h c_16
        refine hK _ _ _ _ _ _ _ ?_
        rw [fdX11_act_38]
        simp only [gt_nil, true_and, eq_self, gt_aload_n, gt_rfk, gw_nth, gt_v0, gt_v1, gt_v2, gt_v3, gt_v4, gt_v5, gt_iload_n, gt_ink, gt_istore, gw_set, gt_iload, gt_bipush, gt_iadd, gt_iconst, gt_get_r, gt_get_i, gt_get_z, gt_iaload, gt_imul, gt_iastore, gt_dup2, gt_iret, gt_retz, bkX11_act_38, ka0_0, ra0_0_0, ka0_1, la0_1]
        obtain ⟨μ_18, e_19, h⟩ := gw_bnd h
        refine ⟨rfl, 0, 0, hcc, hss, ok_X11_keep hS0 e_19 ?_⟩
        simp only [gt_nil, true_and, eq_self, gt_aload_n, gt_rfk, gw_nth, gt_iload_n, gt_ink, gt_v0, gt_v1, gt_v2, gt_v3, gt_v4, gt_v5, gt_istore, gw_set, gt_iload, gt_bipush, gt_iadd, gt_iconst, gt_get_r, gt_get_i, gt_get_z, gt_iaload, gt_imul, gt_iastore, gt_dup2, gt_iret, gt_retz, Option.toList, List.cons_append, List.nil_append, Nat.add_zero, ka0_0, ra0_0_0, ka0_1, la0_1]
        obtain ⟨r_21, e_23, h⟩ := gw_bnd h
        refine ⟨rfl, 0, 0, hcc, hss, ok_X11_guestAt hS0 e_23 ?_⟩
        simp only [gt_nil, true_and, eq_self, gt_istore, gw_set, gt_iload, gt_ink, gw_nth, gt_bipush, gt_iadd, gt_iconst, gt_aload_n, gt_rfk, gt_get_r, gt_get_i, gt_get_z, gt_iaload, gt_imul, gt_iload_n, gt_iastore, gt_dup2, gt_v0, gt_v1, gt_v2, gt_v3, gt_v4, gt_v5, gt_iret, gt_retz, Option.toList, List.cons_append, List.nil_append, Nat.add_zero, ka0_0, ra0_0_0, ka0_1, la0_1]
        obtain ⟨c_25, h⟩ := gw_ife h
        refine ⟨c_25, ?_⟩
        obtain ⟨w_26, hw_26, h⟩ := gw_lt h
        try rw [← hw_26]
        obtain ⟨c_27, h⟩ := gw_ife h
        refine ⟨c_27, ?_⟩
        obtain ⟨μ_28, hμ_28, h⟩ := gw_lt h
        try rw [← hμ_28]
        obtain ⟨c_29, h⟩ := gw_ife h
        refine ⟨c_29, ?_⟩
        obtain ⟨μ_30, hμ_30, h⟩ := gw_lt h
        try rw [← hμ_30]
        obtain ⟨c_31, h⟩ := gw_ife h
        refine ⟨c_31, ?_⟩
        obtain ⟨μ_32, hμ_32, h⟩ := gw_lt h
        try rw [← hμ_32]
        obtain ⟨c_33, h⟩ := gw_ife h
        refine ⟨c_33, ?_⟩
        obtain ⟨c_34, h⟩ := gw_ife h
        refine ⟨c_34, ?_⟩
        obtain ⟨μ_35, hμ_35, h⟩ := gw_lt h
        try rw [← hμ_35]
        obtain ⟨c_36, h⟩ := gw_ife h
        refine ⟨c_36, ?_⟩
        obtain ⟨w_37, hw_37, h⟩ := gw_lt h
        try rw [← hw_37]
        obtain ⟨μ_39, e_40, h⟩ := gw_bnd h
        refine ⟨rfl, 0, 0, hcc, hss, ok_X11_dealOut hS0 e_40 ?_⟩
        simp only [gt_nil, true_and, eq_self, gt_iload, gt_ink, gw_nth, gt_iret, gt_retz, Option.toList, List.cons_append, List.nil_append, Nat.add_zero, ka0_0, ra0_0_0, ka0_1, la0_1]
        obtain ⟨rfl, rfl⟩ := gw_inj2 h
        exact ⟨hcc, hss, hq⟩
      · replace h := gw_ifn2 (gw_c2_ne _ _) h c_16
        refine hK _ _ _ _ _ _ _ ?_
        rw [fdX11_act_36]
        simp only [gt_nil, true_and, eq_self, gt_iconst, gt_iret, gt_retz, bkX11_act_36, ka0_0, ra0_0_0, ka0_1, la0_1]
        obtain ⟨rfl, rfl⟩ := gw_inj2 h
        exact ⟨hcc, hss, hq⟩
def F_X11_wipe_32 (n0 : Nat) (a0 : Nat) : Nat → Int32 → Int32 → Int32 → gw_M → Option (Int32 × gw_M)
  | 0, _, _, _, _ => none
  | n + 1, v2, v3, v4, μ => (if 79 ≤ v4 then (F_X11_dealOut n0 a0 μ).bind (fun (μ_3 : gw_M) => some (v3, μ_3)) else (if 0 ≤ (v2 + v4) ∧ (v2 + v4).toNatClampNeg < 20813 then gw_let (gw_up μ (a0 + 1) (v2 + v4).toNatClampNeg 0) (fun (μ_7 : gw_M) => gw_let (v4 + 1) (fun (w_8 : Int32) => F_X11_wipe_32 n0 a0 n v2 v3 w_8 μ_7)) else none))
def F_X11_wipe (n0 : Nat) (a0 : Nat) (v1 : Int32) (μ : gw_M) : Option (Int32 × gw_M) := (F_X11_isGuest n0 v1 μ).bind (fun (r_1 : Int32) => (if ¬ r_1 = 0 then (F_X11_keep n0 a0 μ).bind (fun (μ_7 : gw_M) => (F_X11_guestAt n0 a0 v1 μ_7).bind (fun (r_10 : Int32) => (if 0 ≤ (r_10 + (6 : Int32)) ∧ (r_10 + (6 : Int32)).toNatClampNeg < 20813 then gw_let ((μ_7 (a0 + 1) (r_10 + (6 : Int32)).toNatClampNeg)) (fun (w_15 : Int32) => F_X11_wipe_32 n0 a0 n0 r_10 w_15 5 μ_7) else none))) else some ((-1), μ)))
theorem B_X11_wipe_32 {l : Launch} {x : gw_C} {d : Nat} {S : gw_S} {Q : Option Value → gw_S → gw_M → Prop} {K : Nat → gw_Kt} {mc ms cc ss : Nat} (hcc : cc ≤ mc) (hss : ss ≤ ms) (hK : gw_cl l x (d + 4) mc ms bsX11_wipe Q K) {a0 : Nat} (hS0 : gw_sh S 11 a0) {n0 : Nat} : ∀ {n : Nat} {v2 v3 v4} {u1 : Value} {μ : gw_M} {r μ'}, F_X11_wipe_32 n0 a0 n v2 v3 v4 μ = some (r, μ') → Q (some (.int r)) S μ' → K 32 [.ref a0, u1, .int v2, .int v3, .int v4] [] S μ cc ss := by
  have ka0_0 : gw_kd S a0 = 11 := (hS0 0 _ rfl).1
  have ra0_0_0 : gw_rf S a0 0 = a0 + 1 := (hS0 0 _ rfl).2.2 (0, 1) (by decide)
  have ka0_1 : gw_kd S (a0 + 1) = 12 := (hS0 1 _ rfl).1
  have la0_1 : gw_ln S (a0 + 1) = 20813 := (hS0 1 _ rfl).2.1
  intro n
  induction n with
  | zero => intro v2 v3 v4 u1 μ r μ' h hq; simp [F_X11_wipe_32] at h
  | succ n ih =>
    intro v2 v3 v4 u1 μ r μ' h hq
    simp only [F_X11_wipe_32] at h
    refine hK _ _ _ _ _ _ _ ?_
    rw [fdX11_wipe_32]
    simp only [gt_nil, true_and, eq_self, gt_iload, gt_ink, gw_nth, gt_bipush, gt_icmp, gt_aload_n, gt_rfk, gt_get_r, gt_get_i, gt_get_z, gt_iload_n, gt_iadd, gt_iconst, gt_iastore, gt_iinc, gw_set, gt_goto, bkX11_wipe_32, ka0_0, ra0_0_0, ka0_1, la0_1]
    refine ⟨fun c_1 => ?_, fun c_1 => ?_⟩
    · replace h := gw_ifp2 (gw_c2_ge _ _) h c_1
      refine hK _ _ _ _ _ _ _ ?_
      rw [fdX11_wipe_55]
      simp only [gt_nil, true_and, eq_self, gt_aload_n, gt_rfk, gw_nth, gt_v0, gt_v1, gt_v2, gt_v3, gt_v4, gt_v5, gt_iload_n, gt_ink, gt_iret, gt_retz, bkX11_wipe_55, ka0_0, ra0_0_0, ka0_1, la0_1]
      obtain ⟨μ_3, e_4, h⟩ := gw_bnd h
      refine ⟨rfl, 0, 0, hcc, hss, ok_X11_dealOut hS0 e_4 ?_⟩
      simp only [gt_nil, true_and, eq_self, gt_iload_n, gt_ink, gw_nth, gt_iret, gt_retz, Option.toList, List.cons_append, List.nil_append, Nat.add_zero, ka0_0, ra0_0_0, ka0_1, la0_1]
      obtain ⟨rfl, rfl⟩ := gw_inj2 h
      exact ⟨hcc, hss, hq⟩
    · replace h := gw_ifn2 (gw_c2_ge _ _) h c_1
      obtain ⟨c_6, h⟩ := gw_ife h
      refine ⟨c_6, ?_⟩
      obtain ⟨μ_7, hμ_7, h⟩ := gw_lt h
      try rw [← hμ_7]
      obtain ⟨w_8, hw_8, h⟩ := gw_lt h
      try rw [← hw_8]
      exact ih h hq
theorem ok_X11_wipe {l : Launch} {x : gw_C} {d : Nat} {S : gw_S} {Q : Option Value → gw_S → gw_M → Prop} {v1 : Int32} {a0 : Nat} {n0 : Nat} {μ : gw_M} {r μ'} (hS0 : gw_sh S 11 a0) (h : F_X11_wipe n0 a0 v1 μ = some (r, μ')) (hq : Q (some (.int r)) S μ') : gw_ok l x (d + 5) sgX11_wipe 0 0 [.ref a0, .int v1] S μ Q := by
  refine gw_ok_of stX11_wipe (lv0 := [.ref a0, .int v1, .retAddr 0, .retAddr 0, .retAddr 0]) (Nat.le_of_ble_eq_true rfl) rfl rfl ?_
  intro K hK
  have hcc : 0 ≤ 0 := Nat.zero_le _
  have hss : 0 ≤ 0 := Nat.zero_le _
  have ka0_0 : gw_kd S a0 = 11 := (hS0 0 _ rfl).1
  have ra0_0_0 : gw_rf S a0 0 = a0 + 1 := (hS0 0 _ rfl).2.2 (0, 1) (by decide)
  have ka0_1 : gw_kd S (a0 + 1) = 12 := (hS0 1 _ rfl).1
  have la0_1 : gw_ln S (a0 + 1) = 20813 := (hS0 1 _ rfl).2.1
  unfold F_X11_wipe at h
  refine hK _ _ _ _ _ _ _ ?_
  rw [fdX11_wipe_0]
  simp only [gt_nil, true_and, eq_self, gt_iload_n, gt_ink, gw_nth, gt_s1_0, gt_s2_0, gt_s3_0, gt_s4_0, gt_s1_1, gt_s2_1, gt_s3_1, gt_s4_1, gt_acpy, gt_if, gt_iconst, gt_iret, gt_retz, bkX11_wipe_0, ka0_0, ra0_0_0, ka0_1, la0_1]
  obtain ⟨r_1, e_3, h⟩ := gw_bnd h
  refine ⟨rfl, 0, 0, hcc, hss, ok_X11_isGuest e_3 ?_⟩
  intro hbr_1
  simp only [gt_nil, true_and, eq_self, gt_if, gt_iconst, gt_iret, gt_retz, Option.toList, List.cons_append, List.nil_append, Nat.add_zero, ka0_0, ra0_0_0, ka0_1, la0_1]
  refine ⟨fun c_5 => ?_, fun c_5 => ?_⟩
  · replace h := gw_ifp h c_5
    refine hK _ _ _ _ _ _ _ ?_
    rw [fdX11_wipe_9]
    simp only [gt_nil, true_and, eq_self, gt_aload_n, gt_rfk, gw_nth, gt_v0, gt_v1, gt_v2, gt_v3, gt_v4, gt_v5, gt_iload_n, gt_ink, gt_istore_n, gw_set, gt_get_r, gt_get_i, gt_get_z, gt_bipush, gt_iadd, gt_iaload, gt_iconst, gt_istore, bkX11_wipe_9, ka0_0, ra0_0_0, ka0_1, la0_1]
    obtain ⟨μ_7, e_8, h⟩ := gw_bnd h
    refine ⟨rfl, 0, 0, hcc, hss, ok_X11_keep hS0 e_8 ?_⟩
    simp only [gt_nil, true_and, eq_self, gt_aload_n, gt_rfk, gw_nth, gt_iload_n, gt_ink, gt_v0, gt_v1, gt_v2, gt_v3, gt_v4, gt_v5, gt_istore_n, gw_set, gt_get_r, gt_get_i, gt_get_z, gt_bipush, gt_iadd, gt_iaload, gt_iconst, gt_istore, Option.toList, List.cons_append, List.nil_append, Nat.add_zero, ka0_0, ra0_0_0, ka0_1, la0_1]
    obtain ⟨r_10, e_12, h⟩ := gw_bnd h
    refine ⟨rfl, 0, 0, hcc, hss, ok_X11_guestAt hS0 e_12 ?_⟩
    simp only [gt_nil, true_and, eq_self, gt_istore_n, gw_set, gt_aload_n, gt_rfk, gw_nth, gt_get_r, gt_get_i, gt_get_z, gt_iload_n, gt_ink, gt_bipush, gt_iadd, gt_iaload, gt_iconst, gt_istore, Option.toList, List.cons_append, List.nil_append, Nat.add_zero, ka0_0, ra0_0_0, ka0_1, la0_1]
    obtain ⟨c_14, h⟩ := gw_ife h
    refine ⟨c_14, ?_⟩
    obtain ⟨w_15, hw_15, h⟩ := gw_lt h
    try rw [← hw_15]
    exact B_X11_wipe_32 hcc hss hK hS0 h hq
  · replace h := gw_ifn h c_5
    obtain ⟨rfl, rfl⟩ := gw_inj2 h
    exact ⟨hcc, hss, hq⟩
