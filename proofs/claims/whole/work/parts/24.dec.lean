def F_X11_pass_34 (n0 : Nat) (a0 : Nat) : Nat → Int32 → Int32 → Int32 → gw_M → Option (Int32 × gw_M)
  | 0, _, _, _, _ => none
  | n + 1, v1, v2, v3, μ => (if v1 ≤ v3 then some (v2, μ) else (F_X11_tick n0 a0 μ).bind (fun (z_5 : Int32 × gw_M) => gw_let ((v2 + z_5.1)) (fun (w_6 : Int32) => (F_X11_dealOut n0 a0 z_5.2).bind (fun (μ_8 : gw_M) => gw_let (v3 + 1) (fun (w_11 : Int32) => F_X11_pass_34 n0 a0 n v1 w_6 w_11 μ_8)))))
def F_X11_pass (n0 : Nat) (a0 : Nat) (v1 : Int32) (μ : gw_M) : Option (Int32 × gw_M) := (F_X11_isIn n0 v1 1 200 μ).bind (fun (z_4 : Int32 × gw_M) => (if z_4.1 = 0 then some ((-1), z_4.2) else (if ((z_4.2 (a0 + 1) 3) + v1) ≤ 99999 then (F_X11_keep n0 a0 z_4.2).bind (fun (μ_8 : gw_M) => F_X11_pass_34 n0 a0 n0 v1 0 0 μ_8) else some ((-1), z_4.2))))
theorem B_X11_pass_34 {l : Launch} {x : gw_C} {d : Nat} {S : gw_S} {Q : Option Value → gw_S → gw_M → Prop} {K : Nat → gw_Kt} (hK : gw_cl l x (d + 5) bsX11_pass Q K) {a0 : Nat} (hS0 : gw_sh S 11 a0) {n0 : Nat} : ∀ {n : Nat} {v1 v2 v3} {μ : gw_M} {r μ'}, F_X11_pass_34 n0 a0 n v1 v2 v3 μ = some (r, μ') → Q (some (.int r)) S μ' → K 34 [.ref a0, .int v1, .int v2, .int v3] [] S μ 0 0 := by
  have ka0_0 : gw_kd S a0 = 11 := (hS0 0 _ rfl).1
  intro n
  induction n with
  | zero => intro v1 v2 v3 μ r μ' h hq; simp [F_X11_pass_34] at h
  | succ n ih =>
    intro v1 v2 v3 μ r μ' h hq
    simp only [F_X11_pass_34] at h
    refine hK _ _ _ _ _ _ _ ?_
    rw [fdX11_pass_34]
    simp only [gt_nil, true_and, eq_self, gt_iload_n, gt_ink, gw_nth, gt_icmp, gt_aload_n, gt_rfk, gt_v0, gt_v1, gt_v2, gt_v3, gt_v4, gt_v5, gt_iadd, gt_istore_n, gw_set, gt_iinc, gt_goto, bkX11_pass_34, ka0_0]
    refine ⟨fun c_1 => ?_, fun c_1 => ?_⟩
    · replace h := gw_ifp h c_1
      refine hK _ _ _ _ _ _ _ ?_
      rw [fdX11_pass_56]
      simp only [gt_nil, true_and, eq_self, gt_iload_n, gt_ink, gw_nth, gt_iret, gt_retz, bkX11_pass_56, ka0_0]
      cases h
      exact ⟨Nat.le_refl _, Nat.le_refl _, hq⟩
    · replace h := gw_ifn h c_1
      obtain ⟨⟨r_2, μ_3⟩, e_4, h⟩ := gw_bnd h
      refine ⟨rfl, 0, 0, Nat.le_refl _, Nat.le_refl _, ok_X11_tick hS0 e_4 ?_⟩
      dsimp only at h
      simp only [gt_nil, true_and, eq_self, gt_iadd, gt_istore_n, gw_set, gt_aload_n, gt_rfk, gw_nth, gt_v0, gt_v1, gt_v2, gt_v3, gt_v4, gt_v5, gt_iinc, gt_ink, gt_goto, Option.toList, List.cons_append, List.nil_append, Nat.add_zero, ka0_0]
      obtain ⟨w_6, hw_6, h⟩ := gw_lt h
      try rw [← hw_6]
      obtain ⟨μ_8, e_9, h⟩ := gw_bnd h
      refine ⟨rfl, 0, 0, Nat.le_refl _, Nat.le_refl _, ok_X11_dealOut hS0 e_9 ?_⟩
      simp only [gt_nil, true_and, eq_self, gt_iinc, gt_ink, gw_nth, gw_set, gt_goto, Option.toList, List.cons_append, List.nil_append, Nat.add_zero, ka0_0]
      obtain ⟨w_11, hw_11, h⟩ := gw_lt h
      try rw [← hw_11]
      exact ih h hq
theorem ok_X11_pass {l : Launch} {x : gw_C} {d : Nat} {S : gw_S} {Q : Option Value → gw_S → gw_M → Prop} {v1 : Int32} {a0 : Nat} {n0 : Nat} {μ : gw_M} {r μ'} (hS0 : gw_sh S 11 a0) (h : F_X11_pass n0 a0 v1 μ = some (r, μ')) (hq : Q (some (.int r)) S μ') : gw_ok l x (d + 6) sgX11_pass 0 0 [.ref a0, .int v1] S μ Q := by
  refine gw_ok_of stX11_pass (lv0 := [.ref a0, .int v1, .retAddr 0, .retAddr 0]) (Nat.le_of_ble_eq_true rfl) rfl rfl ?_
  intro K hK
  have ka0_0 : gw_kd S a0 = 11 := (hS0 0 _ rfl).1
  have ra0_0_0 : gw_rf S a0 0 = a0 + 1 := (hS0 0 _ rfl).2.2 (0, 1) (by decide)
  have ka0_1 : gw_kd S (a0 + 1) = 12 := (hS0 1 _ rfl).1
  have la0_1 : gw_ln S (a0 + 1) = 20813 := (hS0 1 _ rfl).2.1
  unfold F_X11_pass at h
  refine hK _ _ _ _ _ _ _ ?_
  rw [fdX11_pass_0]
  simp only [gt_nil, true_and, eq_self, gt_iload_n, gt_ink, gw_nth, gt_iconst, gt_sipush, gt_s1_0, gt_s2_0, gt_s3_0, gt_s4_0, gt_s1_1, gt_s2_1, gt_s3_1, gt_s4_1, gt_acpy, gt_if, gt_aload_n, gt_rfk, gt_get_r, gt_get_i, gt_get_z, gt_iaload, gt_iadd, gt_ldc, gt_icmp, bkX11_pass_0, ka0_0, ra0_0_0, ka0_1, la0_1, (show Int32.toNatClampNeg 3 = 3 from rfl)]
  obtain ⟨⟨r_1, μ_2⟩, e_3, h⟩ := gw_bnd h
  refine ⟨rfl, 0, 0, Nat.le_refl _, Nat.le_refl _, ok_X11_isIn e_3 ?_⟩
  intro hbr_1
  dsimp only at h
  simp only [gt_nil, true_and, eq_self, gt_if, gt_aload_n, gt_rfk, gw_nth, gt_get_r, gt_get_i, gt_get_z, gt_iconst, gt_iaload, gt_iload_n, gt_ink, gt_iadd, gt_ldc, gt_icmp, Option.toList, List.cons_append, List.nil_append, Nat.add_zero, ka0_0, ra0_0_0, ka0_1, la0_1, (show Int32.toNatClampNeg 3 = 3 from rfl)]
  refine ⟨fun c_5 => ?_, fun c_5 => ?_⟩
  · replace h := gw_ifp h c_5
    refine hK _ _ _ _ _ _ _ ?_
    rw [fdX11_pass_24]
    simp only [gt_nil, true_and, eq_self, gt_iconst, gt_iret, gt_retz, bkX11_pass_24, ka0_0, ra0_0_0, ka0_1, la0_1, (show Int32.toNatClampNeg 3 = 3 from rfl)]
    cases h
    exact ⟨Nat.le_refl _, Nat.le_refl _, hq⟩
  · replace h := gw_ifn h c_5
    refine ⟨(⟨by decide, by decide⟩ : gw_in 3 20813), ?_⟩
    refine ⟨fun c_6 => ?_, fun c_6 => ?_⟩
    · replace h := gw_ifp h c_6
      refine hK _ _ _ _ _ _ _ ?_
      rw [fdX11_pass_26]
      simp only [gt_nil, true_and, eq_self, gt_aload_n, gt_rfk, gw_nth, gt_v0, gt_v1, gt_v2, gt_v3, gt_v4, gt_v5, gt_iconst, gt_istore_n, gw_set, bkX11_pass_26, ka0_0, ra0_0_0, ka0_1, la0_1, (show Int32.toNatClampNeg 3 = 3 from rfl)]
      obtain ⟨μ_8, e_9, h⟩ := gw_bnd h
      refine ⟨rfl, 0, 0, Nat.le_refl _, Nat.le_refl _, ok_X11_keep hS0 e_9 ?_⟩
      simp only [gt_nil, true_and, eq_self, gt_iconst, gt_istore_n, gw_set, Option.toList, List.cons_append, List.nil_append, Nat.add_zero, ka0_0, ra0_0_0, ka0_1, la0_1, (show Int32.toNatClampNeg 3 = 3 from rfl)]
      exact B_X11_pass_34 hK hS0 h hq
    · replace h := gw_ifn h c_6
      refine hK _ _ _ _ _ _ _ ?_
      rw [fdX11_pass_24]
      simp only [gt_nil, true_and, eq_self, gt_iconst, gt_iret, gt_retz, bkX11_pass_24, ka0_0, ra0_0_0, ka0_1, la0_1, (show Int32.toNatClampNeg 3 = 3 from rfl)]
      cases h
      exact ⟨Nat.le_refl _, Nat.le_refl _, hq⟩
def F_X11_needs_14 (n0 : Nat) (v0 : Int32) (v1 : Int32) (s0 : Int32) (s1 : Int32) (s2 : Int32) (μ : gw_M) : Option (Int32 × gw_M) := (F_X11_isIn n0 s0 s1 s2 μ).bind (fun (z_4 : Int32 × gw_M) => (if ¬ z_4.1 = 0 then (if v1 = (0 : Int32) then some (1, z_4.2) else (if v1 = ((0 : Int32) + 1) then some (2, z_4.2) else (if v1 = (((0 : Int32) + 1) + 1) then some (1, z_4.2) else (if v1 = ((((0 : Int32) + 1) + 1) + 1) then some (1, z_4.2) else (if v1 = (((((0 : Int32) + 1) + 1) + 1) + 1) then some (0, z_4.2) else (if v1 = ((((((0 : Int32) + 1) + 1) + 1) + 1) + 1) then some (0, z_4.2) else (if v1 = (((((((0 : Int32) + 1) + 1) + 1) + 1) + 1) + 1) then (if ¬ v0 = 1 then some (2, z_4.2) else some (0, z_4.2)) else (if v1 = ((((((((0 : Int32) + 1) + 1) + 1) + 1) + 1) + 1) + 1) then (if ¬ v0 = 1 then some (0, z_4.2) else some (2, z_4.2)) else (if v1 = (((((((((0 : Int32) + 1) + 1) + 1) + 1) + 1) + 1) + 1) + 1) then some (1, z_4.2) else (if v1 = ((((((((((0 : Int32) + 1) + 1) + 1) + 1) + 1) + 1) + 1) + 1) + 1) then (if ¬ v0 = 1 then some (0, z_4.2) else some (1, z_4.2)) else (if v1 = (((((((((((0 : Int32) + 1) + 1) + 1) + 1) + 1) + 1) + 1) + 1) + 1) + 1) then some (0, z_4.2) else some (1, z_4.2)))))))))))) else some ((-1), z_4.2)))
def F_X11_needs (n0 : Nat) (v0 : Int32) (v1 : Int32) (μ : gw_M) : Option (Int32 × gw_M) := (if ¬ v0 = 1 then F_X11_needs_14 n0 v0 v1 v1 0 9 μ else F_X11_needs_14 n0 v0 v1 v1 0 11 μ)
theorem B_X11_needs_14 {l : Launch} {x : gw_C} {d : Nat} {S : gw_S} {Q : Option Value → gw_S → gw_M → Prop} {K : Nat → gw_Kt} (hK : gw_cl l x (d + 1) bsX11_needs Q K) {n0 : Nat} {v0 v1 s0 s1 s2} {μ : gw_M} {r μ'} (h : F_X11_needs_14 n0 v0 v1 s0 s1 s2 μ = some (r, μ')) (hq : Q (some (.int r)) S μ') : K 14 [.int v0, .int v1] [.int s2, .int s1, .int s0] S μ 0 0 := by
  unfold F_X11_needs_14 at h
  refine hK _ _ _ _ _ _ _ ?_
  rw [fdX11_needs_14]
  simp only [gt_nil, true_and, eq_self, gt_s1_0, gt_s2_0, gt_s3_0, gt_s4_0, gt_s1_1, gt_s2_1, gt_s3_1, gt_s4_1, gt_acpy, gt_if, gt_iconst, gt_iret, gt_retz, bkX11_needs_14]
  obtain ⟨⟨r_1, μ_2⟩, e_3, h⟩ := gw_bnd h
  refine ⟨rfl, 0, 0, Nat.le_refl _, Nat.le_refl _, ok_X11_isIn e_3 ?_⟩
  intro hbr_1
  dsimp only at h
  simp only [gt_nil, true_and, eq_self, gt_if, gt_iconst, gt_iret, gt_retz, Option.toList, List.cons_append, List.nil_append, Nat.add_zero]
  refine ⟨fun c_5 => ?_, fun c_5 => ?_⟩
  · replace h := gw_ifp h c_5
    refine hK _ _ _ _ _ _ _ ?_
    rw [fdX11_needs_22]
    simp only [gt_nil, true_and, eq_self, gt_iload_n, gt_ink, gw_nth, gt_tsw, gw_sw, bkX11_needs_22]
    refine ⟨fun c_6 => ?_, fun c_6 => ?_⟩
    · replace h := gw_ifp h c_6
      refine hK _ _ _ _ _ _ _ ?_
      rw [fdX11_needs_80]
      simp only [gt_nil, true_and, eq_self, gt_iconst, gt_iret, gt_retz, bkX11_needs_80]
      cases h
      exact ⟨Nat.le_refl _, Nat.le_refl _, hq⟩
    replace h := gw_ifn h c_6
    refine ⟨fun c_7 => ?_, fun c_7 => ?_⟩
    · replace h := gw_ifp h c_7
      refine hK _ _ _ _ _ _ _ ?_
      rw [fdX11_needs_82]
      simp only [gt_nil, true_and, eq_self, gt_iconst, gt_iret, gt_retz, bkX11_needs_82]
      cases h
      exact ⟨Nat.le_refl _, Nat.le_refl _, hq⟩
    replace h := gw_ifn h c_7
    refine ⟨fun c_8 => ?_, fun c_8 => ?_⟩
    · replace h := gw_ifp h c_8
      refine hK _ _ _ _ _ _ _ ?_
      rw [fdX11_needs_80]
      simp only [gt_nil, true_and, eq_self, gt_iconst, gt_iret, gt_retz, bkX11_needs_80]
      cases h
      exact ⟨Nat.le_refl _, Nat.le_refl _, hq⟩
    replace h := gw_ifn h c_8
    refine ⟨fun c_9 => ?_, fun c_9 => ?_⟩
    · replace h := gw_ifp h c_9
      refine hK _ _ _ _ _ _ _ ?_
      rw [fdX11_needs_80]
      simp only [gt_nil, true_and, eq_self, gt_iconst, gt_iret, gt_retz, bkX11_needs_80]
      cases h
      exact ⟨Nat.le_refl _, Nat.le_refl _, hq⟩
    replace h := gw_ifn h c_9
    refine ⟨fun c_10 => ?_, fun c_10 => ?_⟩
    · replace h := gw_ifp h c_10
      refine hK _ _ _ _ _ _ _ ?_
      rw [fdX11_needs_84]
      simp only [gt_nil, true_and, eq_self, gt_iconst, gt_iret, gt_retz, bkX11_needs_84]
      cases h
      exact ⟨Nat.le_refl _, Nat.le_refl _, hq⟩
    replace h := gw_ifn h c_10
    refine ⟨fun c_11 => ?_, fun c_11 => ?_⟩
    · replace h := gw_ifp h c_11
      refine hK _ _ _ _ _ _ _ ?_
      rw [fdX11_needs_84]
      simp only [gt_nil, true_and, eq_self, gt_iconst, gt_iret, gt_retz, bkX11_needs_84]
      cases h
      exact ⟨Nat.le_refl _, Nat.le_refl _, hq⟩
    replace h := gw_ifn h c_11
    refine ⟨fun c_12 => ?_, fun c_12 => ?_⟩
    · replace h := gw_ifp h c_12
      refine hK _ _ _ _ _ _ _ ?_
      rw [fdX11_needs_86]
      simp only [gt_nil, true_and, eq_self, gt_iload_n, gt_ink, gw_nth, gt_iconst, gt_icmp, gt_goto, bkX11_needs_86]
      refine ⟨fun c_13 => ?_, fun c_13 => ?_⟩
      · replace h := gw_ifp h c_13
        refine hK _ _ _ _ _ _ _ ?_
        rw [fdX11_needs_95]
        simp only [gt_nil, true_and, eq_self, gt_iconst, bkX11_needs_95]
        refine hK _ _ _ _ _ _ _ ?_
        rw [fdX11_needs_96]
        simp only [gt_nil, true_and, eq_self, gt_iret, gt_retz, bkX11_needs_96]
        cases h
        exact ⟨Nat.le_refl _, Nat.le_refl _, hq⟩
      · replace h := gw_ifn h c_13
        refine hK _ _ _ _ _ _ _ ?_
        rw [fdX11_needs_96]
        simp only [gt_nil, true_and, eq_self, gt_iret, gt_retz, bkX11_needs_96]
        cases h
        exact ⟨Nat.le_refl _, Nat.le_refl _, hq⟩
    replace h := gw_ifn h c_12
    refine ⟨fun c_14 => ?_, fun c_14 => ?_⟩
    · replace h := gw_ifp h c_14
      refine hK _ _ _ _ _ _ _ ?_
      rw [fdX11_needs_97]
      simp only [gt_nil, true_and, eq_self, gt_iload_n, gt_ink, gw_nth, gt_iconst, gt_icmp, gt_goto, bkX11_needs_97]
      refine ⟨fun c_15 => ?_, fun c_15 => ?_⟩
      · replace h := gw_ifp h c_15
        refine hK _ _ _ _ _ _ _ ?_
        rw [fdX11_needs_106]
        simp only [gt_nil, true_and, eq_self, gt_iconst, bkX11_needs_106]
        refine hK _ _ _ _ _ _ _ ?_
        rw [fdX11_needs_107]
        simp only [gt_nil, true_and, eq_self, gt_iret, gt_retz, bkX11_needs_107]
        cases h
        exact ⟨Nat.le_refl _, Nat.le_refl _, hq⟩
      · replace h := gw_ifn h c_15
        refine hK _ _ _ _ _ _ _ ?_
        rw [fdX11_needs_107]
        simp only [gt_nil, true_and, eq_self, gt_iret, gt_retz, bkX11_needs_107]
        cases h
        exact ⟨Nat.le_refl _, Nat.le_refl _, hq⟩
    replace h := gw_ifn h c_14
    refine ⟨fun c_16 => ?_, fun c_16 => ?_⟩
    · replace h := gw_ifp h c_16
      refine hK _ _ _ _ _ _ _ ?_
      rw [fdX11_needs_121]
      simp only [gt_nil, true_and, eq_self, gt_iconst, gt_iret, gt_retz, bkX11_needs_121]
      cases h
      exact ⟨Nat.le_refl _, Nat.le_refl _, hq⟩
    replace h := gw_ifn h c_16
    refine ⟨fun c_17 => ?_, fun c_17 => ?_⟩
    · replace h := gw_ifp h c_17
      refine hK _ _ _ _ _ _ _ ?_
      rw [fdX11_needs_108]
      simp only [gt_nil, true_and, eq_self, gt_iload_n, gt_ink, gw_nth, gt_iconst, gt_icmp, gt_goto, bkX11_needs_108]
      refine ⟨fun c_18 => ?_, fun c_18 => ?_⟩
      · replace h := gw_ifp h c_18
        refine hK _ _ _ _ _ _ _ ?_
        rw [fdX11_needs_117]
        simp only [gt_nil, true_and, eq_self, gt_iconst, bkX11_needs_117]
        refine hK _ _ _ _ _ _ _ ?_
        rw [fdX11_needs_118]
        simp only [gt_nil, true_and, eq_self, gt_iret, gt_retz, bkX11_needs_118]
        cases h
        exact ⟨Nat.le_refl _, Nat.le_refl _, hq⟩
      · replace h := gw_ifn h c_18
        refine hK _ _ _ _ _ _ _ ?_
        rw [fdX11_needs_118]
        simp only [gt_nil, true_and, eq_self, gt_iret, gt_retz, bkX11_needs_118]
        cases h
        exact ⟨Nat.le_refl _, Nat.le_refl _, hq⟩
    replace h := gw_ifn h c_17
    refine ⟨fun c_19 => ?_, fun c_19 => ?_⟩
    · replace h := gw_ifp h c_19
      refine hK _ _ _ _ _ _ _ ?_
      rw [fdX11_needs_119]
      simp only [gt_nil, true_and, eq_self, gt_iconst, gt_iret, gt_retz, bkX11_needs_119]
      cases h
      exact ⟨Nat.le_refl _, Nat.le_refl _, hq⟩
    replace h := gw_ifn h c_19
    refine hK _ _ _ _ _ _ _ ?_
    rw [fdX11_needs_121]
    simp only [gt_nil, true_and, eq_self, gt_iconst, gt_iret, gt_retz, bkX11_needs_121]
    cases h
    exact ⟨Nat.le_refl _, Nat.le_refl _, hq⟩
  · replace h := gw_ifn h c_5
    cases h
    exact ⟨Nat.le_refl _, Nat.le_refl _, hq⟩
theorem ok_X11_needs {l : Launch} {x : gw_C} {d : Nat} {S : gw_S} {Q : Option Value → gw_S → gw_M → Prop} {v0 v1 : Int32} {n0 : Nat} {μ : gw_M} {r μ'} (h : F_X11_needs n0 v0 v1 μ = some (r, μ')) (hq : Q (some (.int r)) S μ') : gw_ok l x (d + 2) sgX11_needs 0 0 [.int v0, .int v1] S μ Q := by
  refine gw_ok_of stX11_needs (lv0 := [.int v0, .int v1]) (Nat.le_of_ble_eq_true rfl) rfl rfl ?_
  intro K hK
  unfold F_X11_needs at h
  refine hK _ _ _ _ _ _ _ ?_
  rw [fdX11_needs_0]
  simp only [gt_nil, true_and, eq_self, gt_iload_n, gt_ink, gw_nth, gt_iconst, gt_icmp, gt_bipush, gt_goto, bkX11_needs_0]
  refine ⟨fun c_1 => ?_, fun c_1 => ?_⟩
  · replace h := gw_ifp h c_1
    refine hK _ _ _ _ _ _ _ ?_
    rw [fdX11_needs_12]
    simp only [gt_nil, true_and, eq_self, gt_bipush, bkX11_needs_12]
    exact B_X11_needs_14 hK h hq
  · replace h := gw_ifn h c_1
    exact B_X11_needs_14 hK h hq
def F_X11_isAct_95 (n0 : Nat) (μ : gw_M) : Option (Int32 × gw_M) := some (0, μ)
def F_X11_isAct_85 (n0 : Nat) (s0 : Int32) (s1 : Int32) (s2 : Int32) (μ : gw_M) : Option (Int32 × gw_M) := (F_X11_isIn n0 s0 s1 s2 μ).bind (fun (z_4 : Int32 × gw_M) => (if z_4.1 = 0 then F_X11_isAct_95 n0 z_4.2 else some (1, z_4.2)))
def F_X11_isAct_65 (n0 : Nat) (v3 : Int32) (v4 : Int32) (v6 : Int32) (s0 : Int32) (s1 : Int32) (s2 : Int32) (μ : gw_M) : Option (Int32 × gw_M) := (F_X11_isIn n0 s0 s1 s2 μ).bind (fun (z_4 : Int32 × gw_M) => (if z_4.1 = 0 then F_X11_isAct_95 n0 z_4.2 else (if v4 ≤ 1 then F_X11_isAct_85 n0 v3 0 0 z_4.2 else F_X11_isAct_85 n0 v3 0 v6 z_4.2)))
def F_X11_isAct_44 (n0 : Nat) (v2 : Int32) (v3 : Int32) (v4 : Int32) (v5 : Int32) (s0 : Int32) (μ : gw_M) : Option (Int32 × gw_M) := (if v4 = (-1) then F_X11_isAct_95 n0 μ else (if v4 ≤ 0 then F_X11_isAct_65 n0 v3 v4 s0 v2 0 0 μ else F_X11_isAct_65 n0 v3 v4 s0 v2 0 v5 μ))
def F_X11_isAct_29 (n0 : Nat) (v1 : Int32) (v2 : Int32) (v3 : Int32) (v4 : Int32) (s0 : Int32) (μ : gw_M) : Option (Int32 × gw_M) := (if ¬ v1 = 1 then F_X11_isAct_44 n0 v2 v3 v4 s0 15 μ else F_X11_isAct_44 n0 v2 v3 v4 s0 9999 μ)
def F_X11_isAct (n0 : Nat) (v0 : Int32) (v1 : Int32) (v2 : Int32) (v3 : Int32) (μ : gw_M) : Option (Int32 × gw_M) := (F_X11_needs n0 v0 v1 μ).bind (fun (z_4 : Int32 × gw_M) => (if ¬ v1 = 3 then (if ¬ v1 = 11 then F_X11_isAct_29 n0 v1 v2 v3 z_4.1 15 z_4.2 else F_X11_isAct_29 n0 v1 v2 v3 z_4.1 2 z_4.2) else F_X11_isAct_29 n0 v1 v2 v3 z_4.1 7 z_4.2))
theorem B_X11_isAct_95 {l : Launch} {x : gw_C} {d : Nat} {S : gw_S} {Q : Option Value → gw_S → gw_M → Prop} {K : Nat → gw_Kt} (hK : gw_cl l x (d + 2) bsX11_isAct Q K) {n0 : Nat}  {u0 u1 u2 u3 u4 u5 u6 : Value} {μ : gw_M} {r μ'} (h : F_X11_isAct_95 n0 μ = some (r, μ')) (hq : ((r = 0 ∨ r = 1) → Q (some (.int r)) S μ')) : K 95 [u0, u1, u2, u3, u4, u5, u6] [] S μ 0 0 := by
  unfold F_X11_isAct_95 at h
  refine hK _ _ _ _ _ _ _ ?_
  rw [fdX11_isAct_95]
  simp only [gt_nil, true_and, eq_self, gt_iconst, bkX11_isAct_95]
  refine hK _ _ _ _ _ _ _ ?_
  rw [fdX11_isAct_96]
  simp only [gt_nil, true_and, eq_self, gt_iret, gt_retz, bkX11_isAct_96]
  cases h
  exact ⟨(Or.inl rfl), Nat.le_refl _, Nat.le_refl _, hq (Or.inl rfl)⟩
theorem B_X11_isAct_85 {l : Launch} {x : gw_C} {d : Nat} {S : gw_S} {Q : Option Value → gw_S → gw_M → Prop} {K : Nat → gw_Kt} (hK : gw_cl l x (d + 2) bsX11_isAct Q K) {n0 : Nat} {s0 s1 s2} {u0 u1 u2 u3 u4 u5 u6 : Value} {μ : gw_M} {r μ'} (h : F_X11_isAct_85 n0 s0 s1 s2 μ = some (r, μ')) (hq : ((r = 0 ∨ r = 1) → Q (some (.int r)) S μ')) : K 85 [u0, u1, u2, u3, u4, u5, u6] [.int s2, .int s1, .int s0] S μ 0 0 := by
  unfold F_X11_isAct_85 at h
  refine hK _ _ _ _ _ _ _ ?_
  rw [fdX11_isAct_85]
  simp only [gt_nil, true_and, eq_self, gt_s1_0, gt_s2_0, gt_s3_0, gt_s4_0, gt_s1_1, gt_s2_1, gt_s3_1, gt_s4_1, gt_acpy, gt_if, gt_iconst, gt_goto, bkX11_isAct_85]
  obtain ⟨⟨r_1, μ_2⟩, e_3, h⟩ := gw_bnd h
  refine ⟨rfl, 0, 0, Nat.le_refl _, Nat.le_refl _, ok_X11_isIn e_3 ?_⟩
  intro hbr_1
  dsimp only at h
  simp only [gt_nil, true_and, eq_self, gt_if, gt_iconst, gt_goto, Option.toList, List.cons_append, List.nil_append, Nat.add_zero]
  refine ⟨fun c_5 => ?_, fun c_5 => ?_⟩
  · replace h := gw_ifp h c_5
    exact B_X11_isAct_95 hK h hq
  · replace h := gw_ifn h c_5
    refine hK _ _ _ _ _ _ _ ?_
    rw [fdX11_isAct_96]
    simp only [gt_nil, true_and, eq_self, gt_iret, gt_retz, bkX11_isAct_96]
    cases h
    exact ⟨(Or.inr rfl), Nat.le_refl _, Nat.le_refl _, hq (Or.inr rfl)⟩
theorem B_X11_isAct_65 {l : Launch} {x : gw_C} {d : Nat} {S : gw_S} {Q : Option Value → gw_S → gw_M → Prop} {K : Nat → gw_Kt} (hK : gw_cl l x (d + 2) bsX11_isAct Q K) {n0 : Nat} {v3 v4 v6 s0 s1 s2} {u0 u1 u2 u5 : Value} {μ : gw_M} {r μ'} (h : F_X11_isAct_65 n0 v3 v4 v6 s0 s1 s2 μ = some (r, μ')) (hq : ((r = 0 ∨ r = 1) → Q (some (.int r)) S μ')) : K 65 [u0, u1, u2, .int v3, .int v4, u5, .int v6] [.int s2, .int s1, .int s0] S μ 0 0 := by
  unfold F_X11_isAct_65 at h
  refine hK _ _ _ _ _ _ _ ?_
  rw [fdX11_isAct_65]
  simp only [gt_nil, true_and, eq_self, gt_s1_0, gt_s2_0, gt_s3_0, gt_s4_0, gt_s1_1, gt_s2_1, gt_s3_1, gt_s4_1, gt_acpy, gt_if, gt_iload_n, gt_ink, gw_nth, gt_iconst, gt_iload, gt_icmp, gt_goto, bkX11_isAct_65]
  obtain ⟨⟨r_1, μ_2⟩, e_3, h⟩ := gw_bnd h
  refine ⟨rfl, 0, 0, Nat.le_refl _, Nat.le_refl _, ok_X11_isIn e_3 ?_⟩
  intro hbr_1
  dsimp only at h
  simp only [gt_nil, true_and, eq_self, gt_if, gt_iload_n, gt_ink, gw_nth, gt_iconst, gt_iload, gt_icmp, gt_goto, Option.toList, List.cons_append, List.nil_append, Nat.add_zero]
  refine ⟨fun c_5 => ?_, fun c_5 => ?_⟩
  · replace h := gw_ifp h c_5
    exact B_X11_isAct_95 hK h hq
  · replace h := gw_ifn h c_5
    refine ⟨fun c_6 => ?_, fun c_6 => ?_⟩
    · replace h := gw_ifp h c_6
      refine hK _ _ _ _ _ _ _ ?_
      rw [fdX11_isAct_84]
      simp only [gt_nil, true_and, eq_self, gt_iconst, bkX11_isAct_84]
      exact B_X11_isAct_85 hK h hq
    · replace h := gw_ifn h c_6
      exact B_X11_isAct_85 hK h hq
theorem B_X11_isAct_44 {l : Launch} {x : gw_C} {d : Nat} {S : gw_S} {Q : Option Value → gw_S → gw_M → Prop} {K : Nat → gw_Kt} (hK : gw_cl l x (d + 2) bsX11_isAct Q K) {n0 : Nat} {v2 v3 v4 v5 s0} {u0 u1 u6 : Value} {μ : gw_M} {r μ'} (h : F_X11_isAct_44 n0 v2 v3 v4 v5 s0 μ = some (r, μ')) (hq : ((r = 0 ∨ r = 1) → Q (some (.int r)) S μ')) : K 44 [u0, u1, .int v2, .int v3, .int v4, .int v5, u6] [.int s0] S μ 0 0 := by
  unfold F_X11_isAct_44 at h
  refine hK _ _ _ _ _ _ _ ?_
  rw [fdX11_isAct_44]
  simp only [gt_nil, true_and, eq_self, gt_istore, gw_set, gt_iload, gt_ink, gw_nth, gt_iconst, gt_icmp, gt_iload_n, gt_if, gt_goto, bkX11_isAct_44]
  refine ⟨fun c_1 => ?_, fun c_1 => ?_⟩
  · replace h := gw_ifp h c_1
    exact B_X11_isAct_95 hK h hq
  · replace h := gw_ifn h c_1
    refine ⟨fun c_2 => ?_, fun c_2 => ?_⟩
    · replace h := gw_ifp h c_2
      refine hK _ _ _ _ _ _ _ ?_
      rw [fdX11_isAct_64]
      simp only [gt_nil, true_and, eq_self, gt_iconst, bkX11_isAct_64]
      exact B_X11_isAct_65 hK h hq
    · replace h := gw_ifn h c_2
      exact B_X11_isAct_65 hK h hq
theorem B_X11_isAct_29 {l : Launch} {x : gw_C} {d : Nat} {S : gw_S} {Q : Option Value → gw_S → gw_M → Prop} {K : Nat → gw_Kt} (hK : gw_cl l x (d + 2) bsX11_isAct Q K) {n0 : Nat} {v1 v2 v3 v4 s0} {u0 u5 u6 : Value} {μ : gw_M} {r μ'} (h : F_X11_isAct_29 n0 v1 v2 v3 v4 s0 μ = some (r, μ')) (hq : ((r = 0 ∨ r = 1) → Q (some (.int r)) S μ')) : K 29 [u0, .int v1, .int v2, .int v3, .int v4, u5, u6] [.int s0] S μ 0 0 := by
  unfold F_X11_isAct_29 at h
  refine hK _ _ _ _ _ _ _ ?_
  rw [fdX11_isAct_29]
  simp only [gt_nil, true_and, eq_self, gt_istore, gw_set, gt_iload_n, gt_ink, gw_nth, gt_iconst, gt_icmp, gt_sipush, gt_goto, bkX11_isAct_29]
  refine ⟨fun c_1 => ?_, fun c_1 => ?_⟩
  · replace h := gw_ifp h c_1
    refine hK _ _ _ _ _ _ _ ?_
    rw [fdX11_isAct_42]
    simp only [gt_nil, true_and, eq_self, gt_bipush, bkX11_isAct_42]
    exact B_X11_isAct_44 hK h hq
  · replace h := gw_ifn h c_1
    exact B_X11_isAct_44 hK h hq
theorem ok_X11_isAct {l : Launch} {x : gw_C} {d : Nat} {S : gw_S} {Q : Option Value → gw_S → gw_M → Prop} {v0 v1 v2 v3 : Int32} {n0 : Nat} {μ : gw_M} {r μ'} (h : F_X11_isAct n0 v0 v1 v2 v3 μ = some (r, μ')) (hq : ((r = 0 ∨ r = 1) → Q (some (.int r)) S μ')) : gw_ok l x (d + 3) sgX11_isAct 0 0 [.int v0, .int v1, .int v2, .int v3] S μ Q := by
  refine gw_ok_of stX11_isAct (lv0 := [.int v0, .int v1, .int v2, .int v3, .retAddr 0, .retAddr 0, .retAddr 0]) (Nat.le_of_ble_eq_true rfl) rfl rfl ?_
  intro K hK
  unfold F_X11_isAct at h
  refine hK _ _ _ _ _ _ _ ?_
  rw [fdX11_isAct_0]
  simp only [gt_nil, true_and, eq_self, gt_iload_n, gt_ink, gw_nth, gt_s1_0, gt_s2_0, gt_s3_0, gt_s4_0, gt_s1_1, gt_s2_1, gt_s3_1, gt_s4_1, gt_acpy, gt_istore, gw_set, gt_iconst, gt_icmp, gt_bipush, gt_goto, bkX11_isAct_0]
  obtain ⟨⟨r_1, μ_2⟩, e_3, h⟩ := gw_bnd h
  refine ⟨rfl, 0, 0, Nat.le_refl _, Nat.le_refl _, ok_X11_needs e_3 ?_⟩
  dsimp only at h
  simp only [gt_nil, true_and, eq_self, gt_istore, gw_set, gt_iload_n, gt_ink, gw_nth, gt_iconst, gt_icmp, gt_bipush, gt_goto, Option.toList, List.cons_append, List.nil_append, Nat.add_zero]
  refine ⟨fun c_5 => ?_, fun c_5 => ?_⟩
  · replace h := gw_ifp h c_5
    refine hK _ _ _ _ _ _ _ ?_
    rw [fdX11_isAct_17]
    simp only [gt_nil, true_and, eq_self, gt_iload_n, gt_ink, gw_nth, gt_bipush, gt_icmp, gt_iconst, gt_goto, bkX11_isAct_17]
    refine ⟨fun c_6 => ?_, fun c_6 => ?_⟩
    · replace h := gw_ifp h c_6
      refine hK _ _ _ _ _ _ _ ?_
      rw [fdX11_isAct_27]
      simp only [gt_nil, true_and, eq_self, gt_bipush, bkX11_isAct_27]
      exact B_X11_isAct_29 hK h hq
    · replace h := gw_ifn h c_6
      exact B_X11_isAct_29 hK h hq
  · replace h := gw_ifn h c_5
    exact B_X11_isAct_29 hK h hq
def F_X11_act (n0 : Nat) (a0 : Nat) (v1 : Int32) (v2 : Int32) (v3 : Int32) (v4 : Int32) (μ : gw_M) : Option (Int32 × gw_M) := (F_X11_isGuest n0 v1 μ).bind (fun (z_4 : Int32 × gw_M) => (if z_4.1 = 0 then some ((-1), z_4.2) else (F_X11_isAct n0 v1 v2 v3 v4 z_4.2).bind (fun (z_9 : Int32 × gw_M) => (if z_9.1 = 0 then some ((-1), z_9.2) else (F_X11_guestAt n0 a0 v1 z_9.2).bind (fun (z_14 : Int32 × gw_M) => (if 0 ≤ (z_14.1 + (6 : Int32)) ∧ (z_14.1 + (6 : Int32)).toNatClampNeg < 20813 then (if ¬ (z_14.2 (a0 + 1) (z_14.1 + (6 : Int32)).toNatClampNeg) = 24 then (F_X11_keep n0 a0 z_14.2).bind (fun (μ_18 : gw_M) => (F_X11_guestAt n0 a0 v1 μ_18).bind (fun (z_24 : Int32 × gw_M) => (if 0 ≤ (z_24.1 + (6 : Int32)) ∧ (z_24.1 + (6 : Int32)).toNatClampNeg < 20813 then gw_let (((z_24.1 + (7 : Int32)) + ((3 : Int32) * (z_24.2 (a0 + 1) (z_24.1 + (6 : Int32)).toNatClampNeg)))) (fun (w_26 : Int32) => (if 0 ≤ w_26 ∧ w_26.toNatClampNeg < 20813 then gw_let (gw_up z_24.2 (a0 + 1) w_26.toNatClampNeg v2) (fun (μ_28 : gw_M) => (if 0 ≤ (w_26 + (1 : Int32)) ∧ (w_26 + (1 : Int32)).toNatClampNeg < 20813 then gw_let (gw_up μ_28 (a0 + 1) (w_26 + (1 : Int32)).toNatClampNeg v3) (fun (μ_30 : gw_M) => (if 0 ≤ (w_26 + (2 : Int32)) ∧ (w_26 + (2 : Int32)).toNatClampNeg < 20813 then gw_let (gw_up μ_30 (a0 + 1) (w_26 + (2 : Int32)).toNatClampNeg v4) (fun (μ_32 : gw_M) => (if 0 ≤ (z_24.1 + (6 : Int32)) ∧ (z_24.1 + (6 : Int32)).toNatClampNeg < 20813 then (if 0 ≤ (z_24.1 + (6 : Int32)) ∧ (z_24.1 + (6 : Int32)).toNatClampNeg < 20813 then gw_let (gw_up μ_32 (a0 + 1) (z_24.1 + (6 : Int32)).toNatClampNeg ((μ_32 (a0 + 1) (z_24.1 + (6 : Int32)).toNatClampNeg) + (1 : Int32))) (fun (μ_35 : gw_M) => (if 0 ≤ (z_24.1 + (6 : Int32)) ∧ (z_24.1 + (6 : Int32)).toNatClampNeg < 20813 then gw_let ((μ_35 (a0 + 1) (z_24.1 + (6 : Int32)).toNatClampNeg)) (fun (w_37 : Int32) => (F_X11_dealOut n0 a0 μ_35).bind (fun (μ_39 : gw_M) => some (w_37, μ_39))) else none)) else none) else none)) else none)) else none)) else none)) else none))) else some ((-1), z_14.2)) else none))))))
theorem ok_X11_act {l : Launch} {x : gw_C} {d : Nat} {S : gw_S} {Q : Option Value → gw_S → gw_M → Prop} {v1 v2 v3 v4 : Int32} {a0 : Nat} {n0 : Nat} {μ : gw_M} {r μ'} (hS0 : gw_sh S 11 a0) (h : F_X11_act n0 a0 v1 v2 v3 v4 μ = some (r, μ')) (hq : Q (some (.int r)) S μ') : gw_ok l x (d + 5) sgX11_act 0 0 [.ref a0, .int v1, .int v2, .int v3, .int v4] S μ Q := by
  refine gw_ok_of stX11_act (lv0 := [.ref a0, .int v1, .int v2, .int v3, .int v4, .retAddr 0, .retAddr 0, .retAddr 0]) (Nat.le_of_ble_eq_true rfl) rfl rfl ?_
  intro K hK
  have ka0_0 : gw_kd S a0 = 11 := (hS0 0 _ rfl).1
  have ra0_0_0 : gw_rf S a0 0 = a0 + 1 := (hS0 0 _ rfl).2.2 (0, 1) (by decide)
  have ka0_1 : gw_kd S (a0 + 1) = 12 := (hS0 1 _ rfl).1
  have la0_1 : gw_ln S (a0 + 1) = 20813 := (hS0 1 _ rfl).2.1
  unfold F_X11_act at h
  refine hK _ _ _ _ _ _ _ ?_
  rw [fdX11_act_0]
  simp only [gt_nil, true_and, eq_self, gt_iload_n, gt_ink, gw_nth, gt_s1_0, gt_s2_0, gt_s3_0, gt_s4_0, gt_s1_1, gt_s2_1, gt_s3_1, gt_s4_1, gt_acpy, gt_if, gt_iload, gt_aload_n, gt_rfk, gt_get_r, gt_get_i, gt_get_z, gt_v0, gt_v1, gt_v2, gt_v3, gt_v4, gt_v5, gt_bipush, gt_iadd, gt_iaload, gt_icmp, bkX11_act_0, ka0_0, ra0_0_0, ka0_1, la0_1]
  obtain ⟨⟨r_1, μ_2⟩, e_3, h⟩ := gw_bnd h
  refine ⟨rfl, 0, 0, Nat.le_refl _, Nat.le_refl _, ok_X11_isGuest e_3 ?_⟩
  intro hbr_1
  dsimp only at h
  simp only [gt_nil, true_and, eq_self, gt_if, gt_iload_n, gt_ink, gw_nth, gt_iload, gt_s1_0, gt_s2_0, gt_s3_0, gt_s4_0, gt_s1_1, gt_s2_1, gt_s3_1, gt_s4_1, gt_acpy, gt_aload_n, gt_rfk, gt_get_r, gt_get_i, gt_get_z, gt_v0, gt_v1, gt_v2, gt_v3, gt_v4, gt_v5, gt_bipush, gt_iadd, gt_iaload, gt_icmp, Option.toList, List.cons_append, List.nil_append, Nat.add_zero, ka0_0, ra0_0_0, ka0_1, la0_1]
  refine ⟨fun c_5 => ?_, fun c_5 => ?_⟩
  · replace h := gw_ifp h c_5
    refine hK _ _ _ _ _ _ _ ?_
    rw [fdX11_act_36]
    simp only [gt_nil, true_and, eq_self, gt_iconst, gt_iret, gt_retz, bkX11_act_36, ka0_0, ra0_0_0, ka0_1, la0_1]
    cases h
    exact ⟨Nat.le_refl _, Nat.le_refl _, hq⟩
  · replace h := gw_ifn h c_5
    obtain ⟨⟨r_6, μ_7⟩, e_8, h⟩ := gw_bnd h
    refine ⟨rfl, 0, 0, Nat.le_refl _, Nat.le_refl _, ok_X11_isAct e_8 ?_⟩
    intro hbr_6
    dsimp only at h
    simp only [gt_nil, true_and, eq_self, gt_if, gt_aload_n, gt_rfk, gw_nth, gt_get_r, gt_get_i, gt_get_z, gt_iload_n, gt_ink, gt_v0, gt_v1, gt_v2, gt_v3, gt_v4, gt_v5, gt_bipush, gt_iadd, gt_iaload, gt_icmp, Option.toList, List.cons_append, List.nil_append, Nat.add_zero, ka0_0, ra0_0_0, ka0_1, la0_1]
    refine ⟨fun c_10 => ?_, fun c_10 => ?_⟩
    · replace h := gw_ifp h c_10
      refine hK _ _ _ _ _ _ _ ?_
      rw [fdX11_act_36]
      simp only [gt_nil, true_and, eq_self, gt_iconst, gt_iret, gt_retz, bkX11_act_36, ka0_0, ra0_0_0, ka0_1, la0_1]
      cases h
      exact ⟨Nat.le_refl _, Nat.le_refl _, hq⟩
    · replace h := gw_ifn h c_10
      obtain ⟨⟨r_11, μ_12⟩, e_13, h⟩ := gw_bnd h
      refine ⟨rfl, 0, 0, Nat.le_refl _, Nat.le_refl _, ok_X11_guestAt hS0 e_13 ?_⟩
      dsimp only at h
      simp only [gt_nil, true_and, eq_self, gt_bipush, gt_iadd, gt_iaload, gt_icmp, Option.toList, List.cons_append, List.nil_append, Nat.add_zero, ka0_0, ra0_0_0, ka0_1, la0_1]
      obtain ⟨c_15, h⟩ := gw_ife h
      refine ⟨c_15, ?_⟩
      refine ⟨fun c_16 => ?_, fun c_16 => ?_⟩
      · replace h := gw_ifp h c_16
        refine hK _ _ _ _ _ _ _ ?_
        rw [fdX11_act_38]
        simp only [gt_nil, true_and, eq_self, gt_aload_n, gt_rfk, gw_nth, gt_v0, gt_v1, gt_v2, gt_v3, gt_v4, gt_v5, gt_iload_n, gt_ink, gt_istore, gw_set, gt_iload, gt_bipush, gt_iadd, gt_iconst, gt_get_r, gt_get_i, gt_get_z, gt_iaload, gt_imul, gt_iastore, gt_dup2, gt_iret, gt_retz, bkX11_act_38, ka0_0, ra0_0_0, ka0_1, la0_1]
        obtain ⟨μ_18, e_19, h⟩ := gw_bnd h
        refine ⟨rfl, 0, 0, Nat.le_refl _, Nat.le_refl _, ok_X11_keep hS0 e_19 ?_⟩
        simp only [gt_nil, true_and, eq_self, gt_aload_n, gt_rfk, gw_nth, gt_iload_n, gt_ink, gt_v0, gt_v1, gt_v2, gt_v3, gt_v4, gt_v5, gt_istore, gw_set, gt_iload, gt_bipush, gt_iadd, gt_iconst, gt_get_r, gt_get_i, gt_get_z, gt_iaload, gt_imul, gt_iastore, gt_dup2, gt_iret, gt_retz, Option.toList, List.cons_append, List.nil_append, Nat.add_zero, ka0_0, ra0_0_0, ka0_1, la0_1]
        obtain ⟨⟨r_21, μ_22⟩, e_23, h⟩ := gw_bnd h
        refine ⟨rfl, 0, 0, Nat.le_refl _, Nat.le_refl _, ok_X11_guestAt hS0 e_23 ?_⟩
        dsimp only at h
        simp only [gt_nil, true_and, eq_self, gt_istore, gw_set, gt_iload, gt_ink, gw_nth, gt_bipush, gt_iadd, gt_iconst, gt_aload_n, gt_rfk, gt_get_r, gt_get_i, gt_get_z, gt_iaload, gt_imul, gt_iload_n, gt_iastore, gt_dup2, gt_v0, gt_v1, gt_v2, gt_v3, gt_v4, gt_v5, gt_iret, gt_retz, Option.toList, List.cons_append, List.nil_append, Nat.add_zero, ka0_0, ra0_0_0, ka0_1, la0_1]
        obtain ⟨c_25, h⟩ := gw_ife h
        refine ⟨c_25, ?_⟩
        obtain ⟨w_26, hw_26, h⟩ := gw_lt h
        try rw [← hw_26]
        obtain ⟨c_27, h⟩ := gw_ife h
        refine ⟨c_27, ?_⟩
        obtain ⟨μ_28, hμ_28, h⟩ := gw_lt h
        try rw [← hμ_28]
        obtain ⟨c_29, h⟩ := gw_ife h
        refine ⟨c_29, ?_⟩
        obtain ⟨μ_30, hμ_30, h⟩ := gw_lt h
        try rw [← hμ_30]
        obtain ⟨c_31, h⟩ := gw_ife h
        refine ⟨c_31, ?_⟩
        obtain ⟨μ_32, hμ_32, h⟩ := gw_lt h
        try rw [← hμ_32]
        obtain ⟨c_33, h⟩ := gw_ife h
        refine ⟨c_33, ?_⟩
        obtain ⟨c_34, h⟩ := gw_ife h
        refine ⟨c_34, ?_⟩
        obtain ⟨μ_35, hμ_35, h⟩ := gw_lt h
        try rw [← hμ_35]
        obtain ⟨c_36, h⟩ := gw_ife h
        refine ⟨c_36, ?_⟩
        obtain ⟨w_37, hw_37, h⟩ := gw_lt h
        try rw [← hw_37]
        obtain ⟨μ_39, e_40, h⟩ := gw_bnd h
        refine ⟨rfl, 0, 0, Nat.le_refl _, Nat.le_refl _, ok_X11_dealOut hS0 e_40 ?_⟩
        simp only [gt_nil, true_and, eq_self, gt_iload, gt_ink, gw_nth, gt_iret, gt_retz, Option.toList, List.cons_append, List.nil_append, Nat.add_zero, ka0_0, ra0_0_0, ka0_1, la0_1]
        cases h
        exact ⟨Nat.le_refl _, Nat.le_refl _, hq⟩
      · replace h := gw_ifn h c_16
        refine hK _ _ _ _ _ _ _ ?_
        rw [fdX11_act_36]
        simp only [gt_nil, true_and, eq_self, gt_iconst, gt_iret, gt_retz, bkX11_act_36, ka0_0, ra0_0_0, ka0_1, la0_1]
        cases h
        exact ⟨Nat.le_refl _, Nat.le_refl _, hq⟩
def F_X11_wipe_32 (n0 : Nat) (a0 : Nat) : Nat → Int32 → Int32 → Int32 → gw_M → Option (Int32 × gw_M)
  | 0, _, _, _, _ => none
  | n + 1, v2, v3, v4, μ => (if 79 ≤ v4 then (F_X11_dealOut n0 a0 μ).bind (fun (μ_3 : gw_M) => some (v3, μ_3)) else (if 0 ≤ (v2 + v4) ∧ (v2 + v4).toNatClampNeg < 20813 then gw_let (gw_up μ (a0 + 1) (v2 + v4).toNatClampNeg 0) (fun (μ_7 : gw_M) => gw_let (v4 + 1) (fun (w_8 : Int32) => F_X11_wipe_32 n0 a0 n v2 v3 w_8 μ_7)) else none))
def F_X11_wipe (n0 : Nat) (a0 : Nat) (v1 : Int32) (μ : gw_M) : Option (Int32 × gw_M) := (F_X11_isGuest n0 v1 μ).bind (fun (z_4 : Int32 × gw_M) => (if ¬ z_4.1 = 0 then (F_X11_keep n0 a0 z_4.2).bind (fun (μ_7 : gw_M) => (F_X11_guestAt n0 a0 v1 μ_7).bind (fun (z_13 : Int32 × gw_M) => (if 0 ≤ (z_13.1 + (6 : Int32)) ∧ (z_13.1 + (6 : Int32)).toNatClampNeg < 20813 then gw_let ((z_13.2 (a0 + 1) (z_13.1 + (6 : Int32)).toNatClampNeg)) (fun (w_15 : Int32) => F_X11_wipe_32 n0 a0 n0 z_13.1 w_15 5 z_13.2) else none))) else some ((-1), z_4.2)))
theorem B_X11_wipe_32 {l : Launch} {x : gw_C} {d : Nat} {S : gw_S} {Q : Option Value → gw_S → gw_M → Prop} {K : Nat → gw_Kt} (hK : gw_cl l x (d + 4) bsX11_wipe Q K) {a0 : Nat} (hS0 : gw_sh S 11 a0) {n0 : Nat} : ∀ {n : Nat} {v2 v3 v4} {u1 : Value} {μ : gw_M} {r μ'}, F_X11_wipe_32 n0 a0 n v2 v3 v4 μ = some (r, μ') → Q (some (.int r)) S μ' → K 32 [.ref a0, u1, .int v2, .int v3, .int v4] [] S μ 0 0 := by
  have ka0_0 : gw_kd S a0 = 11 := (hS0 0 _ rfl).1
  have ra0_0_0 : gw_rf S a0 0 = a0 + 1 := (hS0 0 _ rfl).2.2 (0, 1) (by decide)
  have ka0_1 : gw_kd S (a0 + 1) = 12 := (hS0 1 _ rfl).1
  have la0_1 : gw_ln S (a0 + 1) = 20813 := (hS0 1 _ rfl).2.1
  intro n
  induction n with
  | zero => intro v2 v3 v4 u1 μ r μ' h hq; simp [F_X11_wipe_32] at h
  | succ n ih =>
    intro v2 v3 v4 u1 μ r μ' h hq
    simp only [F_X11_wipe_32] at h
    refine hK _ _ _ _ _ _ _ ?_
    rw [fdX11_wipe_32]
    simp only [gt_nil, true_and, eq_self, gt_iload, gt_ink, gw_nth, gt_bipush, gt_icmp, gt_aload_n, gt_rfk, gt_get_r, gt_get_i, gt_get_z, gt_iload_n, gt_iadd, gt_iconst, gt_iastore, gt_iinc, gw_set, gt_goto, bkX11_wipe_32, ka0_0, ra0_0_0, ka0_1, la0_1]
    refine ⟨fun c_1 => ?_, fun c_1 => ?_⟩
    · replace h := gw_ifp h c_1
      refine hK _ _ _ _ _ _ _ ?_
      rw [fdX11_wipe_55]
      simp only [gt_nil, true_and, eq_self, gt_aload_n, gt_rfk, gw_nth, gt_v0, gt_v1, gt_v2, gt_v3, gt_v4, gt_v5, gt_iload_n, gt_ink, gt_iret, gt_retz, bkX11_wipe_55, ka0_0, ra0_0_0, ka0_1, la0_1]
      obtain ⟨μ_3, e_4, h⟩ := gw_bnd h
      refine ⟨rfl, 0, 0, Nat.le_refl _, Nat.le_refl _, ok_X11_dealOut hS0 e_4 ?_⟩
      simp only [gt_nil, true_and, eq_self, gt_iload_n, gt_ink, gw_nth, gt_iret, gt_retz, Option.toList, List.cons_append, List.nil_append, Nat.add_zero, ka0_0, ra0_0_0, ka0_1, la0_1]
      cases h
      exact ⟨Nat.le_refl _, Nat.le_refl _, hq⟩
    · replace h := gw_ifn h c_1
      obtain ⟨c_6, h⟩ := gw_ife h
      refine ⟨c_6, ?_⟩
      obtain ⟨μ_7, hμ_7, h⟩ := gw_lt h
      try rw [← hμ_7]
      obtain ⟨w_8, hw_8, h⟩ := gw_lt h
      try rw [← hw_8]
      exact ih h hq
theorem ok_X11_wipe {l : Launch} {x : gw_C} {d : Nat} {S : gw_S} {Q : Option Value → gw_S → gw_M → Prop} {v1 : Int32} {a0 : Nat} {n0 : Nat} {μ : gw_M} {r μ'} (hS0 : gw_sh S 11 a0) (h : F_X11_wipe n0 a0 v1 μ = some (r, μ')) (hq : Q (some (.int r)) S μ') : gw_ok l x (d + 5) sgX11_wipe 0 0 [.ref a0, .int v1] S μ Q := by
  refine gw_ok_of stX11_wipe (lv0 := [.ref a0, .int v1, .retAddr 0, .retAddr 0, .retAddr 0]) (Nat.le_of_ble_eq_true rfl) rfl rfl ?_
  intro K hK
  have ka0_0 : gw_kd S a0 = 11 := (hS0 0 _ rfl).1
  have ra0_0_0 : gw_rf S a0 0 = a0 + 1 := (hS0 0 _ rfl).2.2 (0, 1) (by decide)
  have ka0_1 : gw_kd S (a0 + 1) = 12 := (hS0 1 _ rfl).1
  have la0_1 : gw_ln S (a0 + 1) = 20813 := (hS0 1 _ rfl).2.1
  unfold F_X11_wipe at h
  refine hK _ _ _ _ _ _ _ ?_
  rw [fdX11_wipe_0]
  simp only [gt_nil, true_and, eq_self, gt_iload_n, gt_ink, gw_nth, gt_s1_0, gt_s2_0, gt_s3_0, gt_s4_0, gt_s1_1, gt_s2_1, gt_s3_1, gt_s4_1, gt_acpy, gt_if, gt_iconst, gt_iret, gt_retz, bkX11_wipe_0, ka0_0, ra0_0_0, ka0_1, la0_1]
  obtain ⟨⟨r_1, μ_2⟩, e_3, h⟩ := gw_bnd h
  refine ⟨rfl, 0, 0, Nat.le_refl _, Nat.le_refl _, ok_X11_isGuest e_3 ?_⟩
  intro hbr_1
  dsimp only at h
  simp only [gt_nil, true_and, eq_self, gt_if, gt_iconst, gt_iret, gt_retz, Option.toList, List.cons_append, List.nil_append, Nat.add_zero, ka0_0, ra0_0_0, ka0_1, la0_1]
  refine ⟨fun c_5 => ?_, fun c_5 => ?_⟩
  · replace h := gw_ifp h c_5
    refine hK _ _ _ _ _ _ _ ?_
    rw [fdX11_wipe_9]
    simp only [gt_nil, true_and, eq_self, gt_aload_n, gt_rfk, gw_nth, gt_v0, gt_v1, gt_v2, gt_v3, gt_v4, gt_v5, gt_iload_n, gt_ink, gt_istore_n, gw_set, gt_get_r, gt_get_i, gt_get_z, gt_bipush, gt_iadd, gt_iaload, gt_iconst, gt_istore, bkX11_wipe_9, ka0_0, ra0_0_0, ka0_1, la0_1]
    obtain ⟨μ_7, e_8, h⟩ := gw_bnd h
    refine ⟨rfl, 0, 0, Nat.le_refl _, Nat.le_refl _, ok_X11_keep hS0 e_8 ?_⟩
    simp only [gt_nil, true_and, eq_self, gt_aload_n, gt_rfk, gw_nth, gt_iload_n, gt_ink, gt_v0, gt_v1, gt_v2, gt_v3, gt_v4, gt_v5, gt_istore_n, gw_set, gt_get_r, gt_get_i, gt_get_z, gt_bipush, gt_iadd, gt_iaload, gt_iconst, gt_istore, Option.toList, List.cons_append, List.nil_append, Nat.add_zero, ka0_0, ra0_0_0, ka0_1, la0_1]
    obtain ⟨⟨r_10, μ_11⟩, e_12, h⟩ := gw_bnd h
    refine ⟨rfl, 0, 0, Nat.le_refl _, Nat.le_refl _, ok_X11_guestAt hS0 e_12 ?_⟩
    dsimp only at h
    simp only [gt_nil, true_and, eq_self, gt_istore_n, gw_set, gt_aload_n, gt_rfk, gw_nth, gt_get_r, gt_get_i, gt_get_z, gt_iload_n, gt_ink, gt_bipush, gt_iadd, gt_iaload, gt_iconst, gt_istore, Option.toList, List.cons_append, List.nil_append, Nat.add_zero, ka0_0, ra0_0_0, ka0_1, la0_1]
    obtain ⟨c_14, h⟩ := gw_ife h
    refine ⟨c_14, ?_⟩
    obtain ⟨w_15, hw_15, h⟩ := gw_lt h
    try rw [← hw_15]
    exact B_X11_wipe_32 hK hS0 h hq
  · replace h := gw_ifn h c_5
    cases h
    exact ⟨Nat.le_refl _, Nat.le_refl _, hq⟩
def F_X11_actOuter (n0 : Nat) (a0 : Nat) (v1 : Int32) (v2 : Int32) (v3 : Int32) (μ : gw_M) : Option (gw_M) := (if v1 = (6 : Int32) then (F_X11_enterNow n0 a0 μ).bind (fun (μ_3 : gw_M) => some μ_3) else (if v1 = ((6 : Int32) + 1) then (F_X11_layEntry n0 a0 1 v2 v3 7 μ).bind (fun (μ_8 : gw_M) => some μ_8) else (if v1 = (((6 : Int32) + 1) + 1) then (F_X11_pend n0 a0 2 v2 μ).bind (fun (μ_13 : gw_M) => some μ_13) else (if v1 = ((((6 : Int32) + 1) + 1) + 1) then (if (μ (a0 + 1) 16) = (-1) then some μ else (F_X11_layEntry n0 a0 1 (μ (a0 + 1) 16) v2 7 μ).bind (fun (μ_19 : gw_M) => some μ_19)) else (if v1 = (((((6 : Int32) + 1) + 1) + 1) + 1) then (F_X11_endNow n0 a0 1 μ).bind (fun (z_26 : Int32 × gw_M) => some z_26.2) else (if (μ (a0 + 1) 15) = v2 then some μ else (F_X11_handNow n0 a0 v2 μ).bind (fun (μ_29 : gw_M) => some μ_29)))))))
theorem ok_X11_actOuter {l : Launch} {x : gw_C} {d : Nat} {S : gw_S} {Q : Option Value → gw_S → gw_M → Prop} {v1 v2 v3 : Int32} {a0 : Nat} {n0 : Nat} {μ : gw_M} {μ'} (hS0 : gw_sh S 11 a0) (h : F_X11_actOuter n0 a0 v1 v2 v3 μ = some μ') (hq : Q none S μ') : gw_ok l x (d + 7) sgX11_actOuter 0 0 [.ref a0, .int v1, .int v2, .int v3] S μ Q := by
  refine gw_ok_of stX11_actOuter (lv0 := [.ref a0, .int v1, .int v2, .int v3]) (Nat.le_of_ble_eq_true rfl) rfl rfl ?_
  intro K hK
  have ka0_0 : gw_kd S a0 = 11 := (hS0 0 _ rfl).1
  have ra0_0_0 : gw_rf S a0 0 = a0 + 1 := (hS0 0 _ rfl).2.2 (0, 1) (by decide)
  have ka0_1 : gw_kd S (a0 + 1) = 12 := (hS0 1 _ rfl).1
  have la0_1 : gw_ln S (a0 + 1) = 20813 := (hS0 1 _ rfl).2.1
  unfold F_X11_actOuter at h
  refine hK _ _ _ _ _ _ _ ?_
  rw [fdX11_actOuter_0]
  simp only [gt_nil, true_and, eq_self, gt_iload_n, gt_ink, gw_nth, gt_tsw, gw_sw, bkX11_actOuter_0, ka0_0, ra0_0_0, ka0_1, la0_1, (show Int32.toNatClampNeg 15 = 15 from rfl), (show Int32.toNatClampNeg 16 = 16 from rfl)]
  refine ⟨fun c_1 => ?_, fun c_1 => ?_⟩
  · replace h := gw_ifp h c_1
    refine hK _ _ _ _ _ _ _ ?_
    rw [fdX11_actOuter_36]
    simp only [gt_nil, true_and, eq_self, gt_aload_n, gt_rfk, gw_nth, gt_v0, gt_v1, gt_v2, gt_v3, gt_v4, gt_v5, gt_goto, bkX11_actOuter_36, ka0_0, ra0_0_0, ka0_1, la0_1, (show Int32.toNatClampNeg 15 = 15 from rfl), (show Int32.toNatClampNeg 16 = 16 from rfl)]
    obtain ⟨μ_3, e_4, h⟩ := gw_bnd h
    refine ⟨rfl, 0, 0, Nat.le_refl _, Nat.le_refl _, ok_X11_enterNow hS0 e_4 ?_⟩
    simp only [gt_nil, true_and, eq_self, gt_goto, Option.toList, List.cons_append, List.nil_append, Nat.add_zero, ka0_0, ra0_0_0, ka0_1, la0_1, (show Int32.toNatClampNeg 15 = 15 from rfl), (show Int32.toNatClampNeg 16 = 16 from rfl)]
    refine hK _ _ _ _ _ _ _ ?_
    rw [fdX11_actOuter_118]
    simp only [gt_nil, true_and, eq_self, gt_vret, bkX11_actOuter_118, ka0_0, ra0_0_0, ka0_1, la0_1, (show Int32.toNatClampNeg 15 = 15 from rfl), (show Int32.toNatClampNeg 16 = 16 from rfl)]
    cases h
    exact ⟨Nat.le_refl _, Nat.le_refl _, hq⟩
  replace h := gw_ifn h c_1
  refine ⟨fun c_6 => ?_, fun c_6 => ?_⟩
  · replace h := gw_ifp h c_6
    refine hK _ _ _ _ _ _ _ ?_
    rw [fdX11_actOuter_43]
    simp only [gt_nil, true_and, eq_self, gt_aload_n, gt_rfk, gw_nth, gt_iconst, gt_iload_n, gt_ink, gt_bipush, gt_v0, gt_v1, gt_v2, gt_v3, gt_v4, gt_v5, gt_goto, bkX11_actOuter_43, ka0_0, ra0_0_0, ka0_1, la0_1, (show Int32.toNatClampNeg 15 = 15 from rfl), (show Int32.toNatClampNeg 16 = 16 from rfl)]
    obtain ⟨μ_8, e_9, h⟩ := gw_bnd h
    refine ⟨rfl, 0, 0, Nat.le_refl _, Nat.le_refl _, ok_X11_layEntry hS0 e_9 ?_⟩
    simp only [gt_nil, true_and, eq_self, gt_goto, Option.toList, List.cons_append, List.nil_append, Nat.add_zero, ka0_0, ra0_0_0, ka0_1, la0_1, (show Int32.toNatClampNeg 15 = 15 from rfl), (show Int32.toNatClampNeg 16 = 16 from rfl)]
    refine hK _ _ _ _ _ _ _ ?_
    rw [fdX11_actOuter_118]
    simp only [gt_nil, true_and, eq_self, gt_vret, bkX11_actOuter_118, ka0_0, ra0_0_0, ka0_1, la0_1, (show Int32.toNatClampNeg 15 = 15 from rfl), (show Int32.toNatClampNeg 16 = 16 from rfl)]
    cases h
    exact ⟨Nat.le_refl _, Nat.le_refl _, hq⟩
  replace h := gw_ifn h c_6
  refine ⟨fun c_11 => ?_, fun c_11 => ?_⟩
  · replace h := gw_ifp h c_11
    refine hK _ _ _ _ _ _ _ ?_
    rw [fdX11_actOuter_55]
    simp only [gt_nil, true_and, eq_self, gt_aload_n, gt_rfk, gw_nth, gt_iconst, gt_iload_n, gt_ink, gt_v0, gt_v1, gt_v2, gt_v3, gt_v4, gt_v5, gt_goto, bkX11_actOuter_55, ka0_0, ra0_0_0, ka0_1, la0_1, (show Int32.toNatClampNeg 15 = 15 from rfl), (show Int32.toNatClampNeg 16 = 16 from rfl)]
    obtain ⟨μ_13, e_14, h⟩ := gw_bnd h
    refine ⟨rfl, 0, 0, Nat.le_refl _, Nat.le_refl _, ok_X11_pend hS0 e_14 ?_⟩
    simp only [gt_nil, true_and, eq_self, gt_goto, Option.toList, List.cons_append, List.nil_append, Nat.add_zero, ka0_0, ra0_0_0, ka0_1, la0_1, (show Int32.toNatClampNeg 15 = 15 from rfl), (show Int32.toNatClampNeg 16 = 16 from rfl)]
    refine hK _ _ _ _ _ _ _ ?_
    rw [fdX11_actOuter_118]
    simp only [gt_nil, true_and, eq_self, gt_vret, bkX11_actOuter_118, ka0_0, ra0_0_0, ka0_1, la0_1, (show Int32.toNatClampNeg 15 = 15 from rfl), (show Int32.toNatClampNeg 16 = 16 from rfl)]
    cases h
    exact ⟨Nat.le_refl _, Nat.le_refl _, hq⟩
  replace h := gw_ifn h c_11
  refine ⟨fun c_16 => ?_, fun c_16 => ?_⟩
  · replace h := gw_ifp h c_16
    refine hK _ _ _ _ _ _ _ ?_
    rw [fdX11_actOuter_64]
    simp only [gt_nil, true_and, eq_self, gt_aload_n, gt_rfk, gw_nth, gt_get_r, gt_get_i, gt_get_z, gt_bipush, gt_iaload, gt_iconst, gt_icmp, gt_iload_n, gt_ink, gt_v0, gt_v1, gt_v2, gt_v3, gt_v4, gt_v5, gt_goto, bkX11_actOuter_64, ka0_0, ra0_0_0, ka0_1, la0_1, (show Int32.toNatClampNeg 15 = 15 from rfl), (show Int32.toNatClampNeg 16 = 16 from rfl)]
    refine ⟨(⟨by decide, by decide⟩ : gw_in 16 20813), ?_⟩
    refine ⟨fun c_17 => ?_, fun c_17 => ?_⟩
    · replace h := gw_ifp h c_17
      refine hK _ _ _ _ _ _ _ ?_
      rw [fdX11_actOuter_118]
      simp only [gt_nil, true_and, eq_self, gt_vret, bkX11_actOuter_118, ka0_0, ra0_0_0, ka0_1, la0_1, (show Int32.toNatClampNeg 15 = 15 from rfl), (show Int32.toNatClampNeg 16 = 16 from rfl)]
      cases h
      exact ⟨Nat.le_refl _, Nat.le_refl _, hq⟩
    · replace h := gw_ifn h c_17
      refine ⟨(⟨by decide, by decide⟩ : gw_in 16 20813), ?_⟩
      obtain ⟨μ_19, e_20, h⟩ := gw_bnd h
      refine ⟨rfl, 0, 0, Nat.le_refl _, Nat.le_refl _, ok_X11_layEntry hS0 e_20 ?_⟩
      simp only [gt_nil, true_and, eq_self, gt_goto, Option.toList, List.cons_append, List.nil_append, Nat.add_zero, ka0_0, ra0_0_0, ka0_1, la0_1, (show Int32.toNatClampNeg 15 = 15 from rfl), (show Int32.toNatClampNeg 16 = 16 from rfl)]
      refine hK _ _ _ _ _ _ _ ?_
      rw [fdX11_actOuter_118]
      simp only [gt_nil, true_and, eq_self, gt_vret, bkX11_actOuter_118, ka0_0, ra0_0_0, ka0_1, la0_1, (show Int32.toNatClampNeg 15 = 15 from rfl), (show Int32.toNatClampNeg 16 = 16 from rfl)]
      cases h
      exact ⟨Nat.le_refl _, Nat.le_refl _, hq⟩
  replace h := gw_ifn h c_16
  refine ⟨fun c_22 => ?_, fun c_22 => ?_⟩
  · replace h := gw_ifp h c_22
    refine hK _ _ _ _ _ _ _ ?_
    rw [fdX11_actOuter_93]
    simp only [gt_nil, true_and, eq_self, gt_aload_n, gt_rfk, gw_nth, gt_iconst, gt_v0, gt_v1, gt_v2, gt_v3, gt_v4, gt_v5, gt_pop_i, gt_pop_r, gt_goto, bkX11_actOuter_93, ka0_0, ra0_0_0, ka0_1, la0_1, (show Int32.toNatClampNeg 15 = 15 from rfl), (show Int32.toNatClampNeg 16 = 16 from rfl)]
    obtain ⟨⟨r_23, μ_24⟩, e_25, h⟩ := gw_bnd h
    refine ⟨rfl, 0, 0, Nat.le_refl _, Nat.le_refl _, ok_X11_endNow hS0 e_25 ?_⟩
    dsimp only at h
    simp only [gt_nil, true_and, eq_self, gt_pop_i, gt_pop_r, gt_goto, Option.toList, List.cons_append, List.nil_append, Nat.add_zero, ka0_0, ra0_0_0, ka0_1, la0_1, (show Int32.toNatClampNeg 15 = 15 from rfl), (show Int32.toNatClampNeg 16 = 16 from rfl)]
    refine hK _ _ _ _ _ _ _ ?_
    rw [fdX11_actOuter_118]
    simp only [gt_nil, true_and, eq_self, gt_vret, bkX11_actOuter_118, ka0_0, ra0_0_0, ka0_1, la0_1, (show Int32.toNatClampNeg 15 = 15 from rfl), (show Int32.toNatClampNeg 16 = 16 from rfl)]
    cases h
    exact ⟨Nat.le_refl _, Nat.le_refl _, hq⟩
  replace h := gw_ifn h c_22
  refine hK _ _ _ _ _ _ _ ?_
  rw [fdX11_actOuter_102]
  simp only [gt_nil, true_and, eq_self, gt_aload_n, gt_rfk, gw_nth, gt_get_r, gt_get_i, gt_get_z, gt_bipush, gt_iaload, gt_iload_n, gt_ink, gt_icmp, gt_v0, gt_v1, gt_v2, gt_v3, gt_v4, gt_v5, bkX11_actOuter_102, ka0_0, ra0_0_0, ka0_1, la0_1, (show Int32.toNatClampNeg 15 = 15 from rfl), (show Int32.toNatClampNeg 16 = 16 from rfl)]
  refine ⟨(⟨by decide, by decide⟩ : gw_in 15 20813), ?_⟩
  refine ⟨fun c_27 => ?_, fun c_27 => ?_⟩
  · replace h := gw_ifp h c_27
    refine hK _ _ _ _ _ _ _ ?_
    rw [fdX11_actOuter_118]
    simp only [gt_nil, true_and, eq_self, gt_vret, bkX11_actOuter_118, ka0_0, ra0_0_0, ka0_1, la0_1, (show Int32.toNatClampNeg 15 = 15 from rfl), (show Int32.toNatClampNeg 16 = 16 from rfl)]
    cases h
    exact ⟨Nat.le_refl _, Nat.le_refl _, hq⟩
  · replace h := gw_ifn h c_27
    obtain ⟨μ_29, e_30, h⟩ := gw_bnd h
    refine ⟨rfl, 0, 0, Nat.le_refl _, Nat.le_refl _, ok_X11_handNow hS0 e_30 ?_⟩
    simp only [gt_nil, true_and, eq_self, Option.toList, List.cons_append, List.nil_append, Nat.add_zero, ka0_0, ra0_0_0, ka0_1, la0_1, (show Int32.toNatClampNeg 15 = 15 from rfl), (show Int32.toNatClampNeg 16 = 16 from rfl)]
    refine hK _ _ _ _ _ _ _ ?_
    rw [fdX11_actOuter_118]
    simp only [gt_nil, true_and, eq_self, gt_vret, bkX11_actOuter_118, ka0_0, ra0_0_0, ka0_1, la0_1, (show Int32.toNatClampNeg 15 = 15 from rfl), (show Int32.toNatClampNeg 16 = 16 from rfl)]
    cases h
    exact ⟨Nat.le_refl _, Nat.le_refl _, hq⟩
def F_X11_hasPlace (n0 : Nat) (a0 : Nat) (v1 : Int32) (v2 : Int32) (μ : gw_M) : Option (Int32 × gw_M) := (if 0 ≤ (v1 + (6 : Int32)) ∧ (v1 + (6 : Int32)).toNatClampNeg < 20813 then (F_X11_isIn n0 v2 0 ((μ (a0 + 1) (v1 + (6 : Int32)).toNatClampNeg) - (1 : Int32)) μ).bind (fun (z_5 : Int32 × gw_M) => some (z_5.1, z_5.2)) else none)
theorem ok_X11_hasPlace {l : Launch} {x : gw_C} {d : Nat} {S : gw_S} {Q : Option Value → gw_S → gw_M → Prop} {v1 v2 : Int32} {a0 : Nat} {n0 : Nat} {μ : gw_M} {r μ'} (hS0 : gw_sh S 11 a0) (h : F_X11_hasPlace n0 a0 v1 v2 μ = some (r, μ')) (hq : ((r = 0 ∨ r = 1) → Q (some (.int r)) S μ')) : gw_ok l x (d + 2) sgX11_hasPlace 0 0 [.ref a0, .int v1, .int v2] S μ Q := by
  refine gw_ok_of stX11_hasPlace (lv0 := [.ref a0, .int v1, .int v2]) (Nat.le_of_ble_eq_true rfl) rfl rfl ?_
  intro K hK
  have ka0_0 : gw_kd S a0 = 11 := (hS0 0 _ rfl).1
  have ra0_0_0 : gw_rf S a0 0 = a0 + 1 := (hS0 0 _ rfl).2.2 (0, 1) (by decide)
  have ka0_1 : gw_kd S (a0 + 1) = 12 := (hS0 1 _ rfl).1
  have la0_1 : gw_ln S (a0 + 1) = 20813 := (hS0 1 _ rfl).2.1
  unfold F_X11_hasPlace at h
  refine hK _ _ _ _ _ _ _ ?_
  rw [fdX11_hasPlace_0]
  simp only [gt_nil, true_and, eq_self, gt_iload_n, gt_ink, gw_nth, gt_iconst, gt_aload_n, gt_rfk, gt_get_r, gt_get_i, gt_get_z, gt_bipush, gt_iadd, gt_iaload, gt_isub, gt_s1_0, gt_s2_0, gt_s3_0, gt_s4_0, gt_s1_1, gt_s2_1, gt_s3_1, gt_s4_1, gt_acpy, gt_iret, gt_retz, bkX11_hasPlace_0, ka0_0, ra0_0_0, ka0_1, la0_1]
  obtain ⟨c_1, h⟩ := gw_ife h
  refine ⟨c_1, ?_⟩
  obtain ⟨⟨r_2, μ_3⟩, e_4, h⟩ := gw_bnd h
  refine ⟨rfl, 0, 0, Nat.le_refl _, Nat.le_refl _, ok_X11_isIn e_4 ?_⟩
  intro hbr_2
  dsimp only at h
  simp only [gt_nil, true_and, eq_self, gt_iret, gt_retz, Option.toList, List.cons_append, List.nil_append, Nat.add_zero, ka0_0, ra0_0_0, ka0_1, la0_1]
  cases h
  exact ⟨hbr_2, Nat.le_refl _, Nat.le_refl _, hq hbr_2⟩
def F_X11_actInner (n0 : Nat) (a0 : Nat) (v1 : Int32) (v2 : Int32) (v3 : Int32) (μ : gw_M) : Option (gw_M) := (F_X11_guestAt n0 a0 2 μ).bind (fun (z_4 : Int32 × gw_M) => (if v1 = (6 : Int32) then (F_X11_layEntry n0 a0 0 v2 v3 7 z_4.2).bind (fun (μ_7 : gw_M) => some μ_7) else (if v1 = ((6 : Int32) + 1) then (F_X11_endNow n0 a0 2 z_4.2).bind (fun (z_14 : Int32 × gw_M) => some z_14.2) else (if v1 = (((6 : Int32) + 1) + 1) then (if 0 ≤ (z_4.1 + (144 : Int32)) ∧ (z_4.1 + (144 : Int32)).toNatClampNeg < 20813 then (if (z_4.2 (a0 + 1) (z_4.1 + (144 : Int32)).toNatClampNeg) = (-1) then some z_4.2 else (if 0 ≤ (z_4.1 + (144 : Int32)) ∧ (z_4.1 + (144 : Int32)).toNatClampNeg < 20813 then (F_X11_layEntry n0 a0 0 (z_4.2 (a0 + 1) (z_4.1 + (144 : Int32)).toNatClampNeg) v2 7 z_4.2).bind (fun (μ_20 : gw_M) => some μ_20) else none)) else none) else (if 0 ≤ ((z_4.1 + (144 : Int32)) + (1 : Int32)) ∧ ((z_4.1 + (144 : Int32)) + (1 : Int32)).toNatClampNeg < 20813 then (F_X11_hasPlace n0 a0 z_4.1 (z_4.2 (a0 + 1) ((z_4.1 + (144 : Int32)) + (1 : Int32)).toNatClampNeg) z_4.2).bind (fun (z_27 : Int32 × gw_M) => (if z_27.1 = 0 then some z_27.2 else (if 0 ≤ ((z_4.1 + (144 : Int32)) + (1 : Int32)) ∧ ((z_4.1 + (144 : Int32)) + (1 : Int32)).toNatClampNeg < 20813 then (if 0 ≤ (z_4.1 + (5 : Int32)) ∧ (z_4.1 + (5 : Int32)).toNatClampNeg < 20813 then gw_let (gw_up z_27.2 (a0 + 1) (z_4.1 + (5 : Int32)).toNatClampNeg (z_27.2 (a0 + 1) ((z_4.1 + (144 : Int32)) + (1 : Int32)).toNatClampNeg)) (fun (μ_31 : gw_M) => some μ_31) else none) else none))) else none)))))
theorem ok_X11_actInner {l : Launch} {x : gw_C} {d : Nat} {S : gw_S} {Q : Option Value → gw_S → gw_M → Prop} {v1 v2 v3 : Int32} {a0 : Nat} {n0 : Nat} {μ : gw_M} {μ'} (hS0 : gw_sh S 11 a0) (h : F_X11_actInner n0 a0 v1 v2 v3 μ = some μ') (hq : Q none S μ') : gw_ok l x (d + 7) sgX11_actInner 0 0 [.ref a0, .int v1, .int v2, .int v3] S μ Q := by
  refine gw_ok_of stX11_actInner (lv0 := [.ref a0, .int v1, .int v2, .int v3, .retAddr 0]) (Nat.le_of_ble_eq_true rfl) rfl rfl ?_
  intro K hK
  have ka0_0 : gw_kd S a0 = 11 := (hS0 0 _ rfl).1
  have ra0_0_0 : gw_rf S a0 0 = a0 + 1 := (hS0 0 _ rfl).2.2 (0, 1) (by decide)
  have ka0_1 : gw_kd S (a0 + 1) = 12 := (hS0 1 _ rfl).1
  have la0_1 : gw_ln S (a0 + 1) = 20813 := (hS0 1 _ rfl).2.1
  unfold F_X11_actInner at h
  refine hK _ _ _ _ _ _ _ ?_
  rw [fdX11_actInner_0]
  simp only [gt_nil, true_and, eq_self, gt_aload_n, gt_rfk, gw_nth, gt_iconst, gt_v0, gt_v1, gt_v2, gt_v3, gt_v4, gt_v5, gt_istore, gw_set, gt_iload_n, gt_ink, gt_tsw, gw_sw, bkX11_actInner_0, ka0_0, ra0_0_0, ka0_1, la0_1]
  obtain ⟨⟨r_1, μ_2⟩, e_3, h⟩ := gw_bnd h
  refine ⟨rfl, 0, 0, Nat.le_refl _, Nat.le_refl _, ok_X11_guestAt hS0 e_3 ?_⟩
  dsimp only at h
  simp only [gt_nil, true_and, eq_self, gt_istore, gw_set, gt_iload_n, gt_ink, gw_nth, gt_tsw, gw_sw, Option.toList, List.cons_append, List.nil_append, Nat.add_zero, ka0_0, ra0_0_0, ka0_1, la0_1]
  refine ⟨fun c_5 => ?_, fun c_5 => ?_⟩
  · replace h := gw_ifp h c_5
    refine hK _ _ _ _ _ _ _ ?_
    rw [fdX11_actInner_36]
    simp only [gt_nil, true_and, eq_self, gt_aload_n, gt_rfk, gw_nth, gt_iconst, gt_iload_n, gt_ink, gt_bipush, gt_v0, gt_v1, gt_v2, gt_v3, gt_v4, gt_v5, gt_goto, bkX11_actInner_36, ka0_0, ra0_0_0, ka0_1, la0_1]
    obtain ⟨μ_7, e_8, h⟩ := gw_bnd h
    refine ⟨rfl, 0, 0, Nat.le_refl _, Nat.le_refl _, ok_X11_layEntry hS0 e_8 ?_⟩
    simp only [gt_nil, true_and, eq_self, gt_goto, Option.toList, List.cons_append, List.nil_append, Nat.add_zero, ka0_0, ra0_0_0, ka0_1, la0_1]
    refine hK _ _ _ _ _ _ _ ?_
    rw [fdX11_actInner_138]
    simp only [gt_nil, true_and, eq_self, gt_vret, bkX11_actInner_138, ka0_0, ra0_0_0, ka0_1, la0_1]
    cases h
    exact ⟨Nat.le_refl _, Nat.le_refl _, hq⟩
  replace h := gw_ifn h c_5
  refine ⟨fun c_10 => ?_, fun c_10 => ?_⟩
  · replace h := gw_ifp h c_10
    refine hK _ _ _ _ _ _ _ ?_
    rw [fdX11_actInner_48]
    simp only [gt_nil, true_and, eq_self, gt_aload_n, gt_rfk, gw_nth, gt_iconst, gt_v0, gt_v1, gt_v2, gt_v3, gt_v4, gt_v5, gt_pop_i, gt_pop_r, gt_goto, bkX11_actInner_48, ka0_0, ra0_0_0, ka0_1, la0_1]
    obtain ⟨⟨r_11, μ_12⟩, e_13, h⟩ := gw_bnd h
    refine ⟨rfl, 0, 0, Nat.le_refl _, Nat.le_refl _, ok_X11_endNow hS0 e_13 ?_⟩
    dsimp only at h
    simp only [gt_nil, true_and, eq_self, gt_pop_i, gt_pop_r, gt_goto, Option.toList, List.cons_append, List.nil_append, Nat.add_zero, ka0_0, ra0_0_0, ka0_1, la0_1]
    refine hK _ _ _ _ _ _ _ ?_
    rw [fdX11_actInner_138]
    simp only [gt_nil, true_and, eq_self, gt_vret, bkX11_actInner_138, ka0_0, ra0_0_0, ka0_1, la0_1]
    cases h
    exact ⟨Nat.le_refl _, Nat.le_refl _, hq⟩
  replace h := gw_ifn h c_10
  refine ⟨fun c_15 => ?_, fun c_15 => ?_⟩
  · replace h := gw_ifp h c_15
    refine hK _ _ _ _ _ _ _ ?_
    rw [fdX11_actInner_57]
    simp only [gt_nil, true_and, eq_self, gt_aload_n, gt_rfk, gw_nth, gt_get_r, gt_get_i, gt_get_z, gt_iload, gt_ink, gt_sipush, gt_iadd, gt_iaload, gt_iconst, gt_icmp, gt_iload_n, gt_bipush, gt_v0, gt_v1, gt_v2, gt_v3, gt_v4, gt_v5, gt_goto, bkX11_actInner_57, ka0_0, ra0_0_0, ka0_1, la0_1]
    obtain ⟨c_16, h⟩ := gw_ife h
    refine ⟨c_16, ?_⟩
    refine ⟨fun c_17 => ?_, fun c_17 => ?_⟩
    · replace h := gw_ifp h c_17
      refine hK _ _ _ _ _ _ _ ?_
      rw [fdX11_actInner_138]
      simp only [gt_nil, true_and, eq_self, gt_vret, bkX11_actInner_138, ka0_0, ra0_0_0, ka0_1, la0_1]
      cases h
      exact ⟨Nat.le_refl _, Nat.le_refl _, hq⟩
    · replace h := gw_ifn h c_17
      obtain ⟨c_18, h⟩ := gw_ife h
      refine ⟨c_18, ?_⟩
      obtain ⟨μ_20, e_21, h⟩ := gw_bnd h
      refine ⟨rfl, 0, 0, Nat.le_refl _, Nat.le_refl _, ok_X11_layEntry hS0 e_21 ?_⟩
      simp only [gt_nil, true_and, eq_self, gt_goto, Option.toList, List.cons_append, List.nil_append, Nat.add_zero, ka0_0, ra0_0_0, ka0_1, la0_1]
      refine hK _ _ _ _ _ _ _ ?_
      rw [fdX11_actInner_138]
      simp only [gt_nil, true_and, eq_self, gt_vret, bkX11_actInner_138, ka0_0, ra0_0_0, ka0_1, la0_1]
      cases h
      exact ⟨Nat.le_refl _, Nat.le_refl _, hq⟩
  replace h := gw_ifn h c_15
  refine hK _ _ _ _ _ _ _ ?_
  rw [fdX11_actInner_94]
  simp only [gt_nil, true_and, eq_self, gt_aload_n, gt_rfk, gw_nth, gt_iload, gt_ink, gt_get_r, gt_get_i, gt_get_z, gt_sipush, gt_iadd, gt_iconst, gt_iaload, gt_v0, gt_v1, gt_v2, gt_v3, gt_v4, gt_v5, gt_if, gt_iastore, bkX11_actInner_94, ka0_0, ra0_0_0, ka0_1, la0_1]
  obtain ⟨c_23, h⟩ := gw_ife h
  refine ⟨c_23, ?_⟩
  obtain ⟨⟨r_24, μ_25⟩, e_26, h⟩ := gw_bnd h
  refine ⟨rfl, 0, 0, Nat.le_refl _, Nat.le_refl _, ok_X11_hasPlace hS0 e_26 ?_⟩
  intro hbr_24
  dsimp only at h
  simp only [gt_nil, true_and, eq_self, gt_if, gt_aload_n, gt_rfk, gw_nth, gt_get_r, gt_get_i, gt_get_z, gt_iload, gt_ink, gt_iconst, gt_iadd, gt_sipush, gt_iaload, gt_iastore, Option.toList, List.cons_append, List.nil_append, Nat.add_zero, ka0_0, ra0_0_0, ka0_1, la0_1]
  refine ⟨fun c_28 => ?_, fun c_28 => ?_⟩
  · replace h := gw_ifp h c_28
    refine hK _ _ _ _ _ _ _ ?_
    rw [fdX11_actInner_138]
    simp only [gt_nil, true_and, eq_self, gt_vret, bkX11_actInner_138, ka0_0, ra0_0_0, ka0_1, la0_1]
    cases h
    exact ⟨Nat.le_refl _, Nat.le_refl _, hq⟩
  · replace h := gw_ifn h c_28
    obtain ⟨c_29, h⟩ := gw_ife h
    refine ⟨c_29, ?_⟩
    obtain ⟨c_30, h⟩ := gw_ife h
    refine ⟨c_30, ?_⟩
    obtain ⟨μ_31, hμ_31, h⟩ := gw_lt h
    try rw [← hμ_31]
    refine hK _ _ _ _ _ _ _ ?_
    rw [fdX11_actInner_138]
    simp only [gt_nil, true_and, eq_self, gt_vret, bkX11_actInner_138, ka0_0, ra0_0_0, ka0_1, la0_1]
    cases h
    exact ⟨Nat.le_refl _, Nat.le_refl _, hq⟩
def F_X11_goOnBy (n0 : Nat) (a0 : Nat) (v1 : Int32) (v2 : Int32) (v3 : Int32) (v4 : Int32) (μ : gw_M) : Option (gw_M) := (if ¬ v3 = (-3) then (if ¬ v4 = 0 then (if 0 ≤ ((v1 + (144 : Int32)) + (1 : Int32)) ∧ ((v1 + (144 : Int32)) + (1 : Int32)).toNatClampNeg < 20813 then gw_let (gw_up μ (a0 + 1) ((v1 + (144 : Int32)) + (1 : Int32)).toNatClampNeg v2) (fun (μ_4 : gw_M) => (if 0 ≤ (v1 + (143 : Int32)) ∧ (v1 + (143 : Int32)).toNatClampNeg < 20813 then (F_X11_hasPlace n0 a0 v1 (μ_4 (a0 + 1) (v1 + (143 : Int32)).toNatClampNeg) μ_4).bind (fun (z_9 : Int32 × gw_M) => (if z_9.1 = 0 then some z_9.2 else (if 0 ≤ (v1 + (143 : Int32)) ∧ (v1 + (143 : Int32)).toNatClampNeg < 20813 then (if 0 ≤ (v1 + (5 : Int32)) ∧ (v1 + (5 : Int32)).toNatClampNeg < 20813 then gw_let (gw_up z_9.2 (a0 + 1) (v1 + (5 : Int32)).toNatClampNeg (z_9.2 (a0 + 1) (v1 + (143 : Int32)).toNatClampNeg)) (fun (μ_13 : gw_M) => some μ_13) else none) else none))) else none)) else none) else some μ) else (if 0 ≤ (v1 + (5 : Int32)) ∧ (v1 + (5 : Int32)).toNatClampNeg < 20813 then gw_let (gw_up μ (a0 + 1) (v1 + (5 : Int32)).toNatClampNeg v2) (fun (μ_15 : gw_M) => (if ¬ v4 = 0 then (if 0 ≤ ((v1 + (144 : Int32)) + (1 : Int32)) ∧ ((v1 + (144 : Int32)) + (1 : Int32)).toNatClampNeg < 20813 then gw_let (gw_up μ_15 (a0 + 1) ((v1 + (144 : Int32)) + (1 : Int32)).toNatClampNeg v2) (fun (μ_18 : gw_M) => (if 0 ≤ (v1 + (143 : Int32)) ∧ (v1 + (143 : Int32)).toNatClampNeg < 20813 then (F_X11_hasPlace n0 a0 v1 (μ_18 (a0 + 1) (v1 + (143 : Int32)).toNatClampNeg) μ_18).bind (fun (z_23 : Int32 × gw_M) => (if z_23.1 = 0 then some z_23.2 else (if 0 ≤ (v1 + (143 : Int32)) ∧ (v1 + (143 : Int32)).toNatClampNeg < 20813 then (if 0 ≤ (v1 + (5 : Int32)) ∧ (v1 + (5 : Int32)).toNatClampNeg < 20813 then gw_let (gw_up z_23.2 (a0 + 1) (v1 + (5 : Int32)).toNatClampNeg (z_23.2 (a0 + 1) (v1 + (143 : Int32)).toNatClampNeg)) (fun (μ_27 : gw_M) => some μ_27) else none) else none))) else none)) else none) else some μ_15)) else none))
theorem ok_X11_goOnBy {l : Launch} {x : gw_C} {d : Nat} {S : gw_S} {Q : Option Value → gw_S → gw_M → Prop} {v1 v2 v3 v4 : Int32} {a0 : Nat} {n0 : Nat} {μ : gw_M} {μ'} (hS0 : gw_sh S 11 a0) (hz4 : v4 = 0 ∨ v4 = 1) (h : F_X11_goOnBy n0 a0 v1 v2 v3 v4 μ = some μ') (hq : Q none S μ') : gw_ok l x (d + 3) sgX11_goOnBy 0 0 [.ref a0, .int v1, .int v2, .int v3, .int v4] S μ Q := by
  refine gw_ok_of stX11_goOnBy (lv0 := [.ref a0, .int v1, .int v2, .int v3, .int v4]) (Nat.le_of_ble_eq_true rfl) rfl rfl ?_
  intro K hK
  have ka0_0 : gw_kd S a0 = 11 := (hS0 0 _ rfl).1
  have ra0_0_0 : gw_rf S a0 0 = a0 + 1 := (hS0 0 _ rfl).2.2 (0, 1) (by decide)
  have ka0_1 : gw_kd S (a0 + 1) = 12 := (hS0 1 _ rfl).1
  have la0_1 : gw_ln S (a0 + 1) = 20813 := (hS0 1 _ rfl).2.1
  unfold F_X11_goOnBy at h
  refine hK _ _ _ _ _ _ _ ?_
  rw [fdX11_goOnBy_0]
  simp only [gt_nil, true_and, eq_self, gt_iload_n, gt_ink, gw_nth, gt_bipush, gt_icmp, gt_aload_n, gt_rfk, gt_get_r, gt_get_i, gt_get_z, gt_iconst, gt_iadd, gt_iastore, bkX11_goOnBy_0, ka0_0, ra0_0_0, ka0_1, la0_1]
  refine ⟨fun c_1 => ?_, fun c_1 => ?_⟩
  · replace h := gw_ifp h c_1
    refine hK _ _ _ _ _ _ _ ?_
    rw [fdX11_goOnBy_15]
    simp only [gt_nil, true_and, eq_self, gt_iload, gt_ink, gw_nth, gt_if, gt_vret, bkX11_goOnBy_15, ka0_0, ra0_0_0, ka0_1, la0_1]
    refine ⟨fun c_2 => ?_, fun c_2 => ?_⟩
    · replace h := gw_ifp h c_2
      refine hK _ _ _ _ _ _ _ ?_
      rw [fdX11_goOnBy_21]
      simp only [gt_nil, true_and, eq_self, gt_aload_n, gt_rfk, gw_nth, gt_get_r, gt_get_i, gt_get_z, gt_iload_n, gt_ink, gt_sipush, gt_iadd, gt_iconst, gt_iastore, gt_iaload, gt_v0, gt_v1, gt_v2, gt_v3, gt_v4, gt_v5, gt_if, bkX11_goOnBy_21, ka0_0, ra0_0_0, ka0_1, la0_1]
      obtain ⟨c_3, h⟩ := gw_ife h
      refine ⟨c_3, ?_⟩
      obtain ⟨μ_4, hμ_4, h⟩ := gw_lt h
      try rw [← hμ_4]
      obtain ⟨c_5, h⟩ := gw_ife h
      refine ⟨c_5, ?_⟩
      obtain ⟨⟨r_6, μ_7⟩, e_8, h⟩ := gw_bnd h
      refine ⟨rfl, 0, 0, Nat.le_refl _, Nat.le_refl _, ok_X11_hasPlace hS0 e_8 ?_⟩
      intro hbr_6
      dsimp only at h
      simp only [gt_nil, true_and, eq_self, gt_if, gt_aload_n, gt_rfk, gw_nth, gt_get_r, gt_get_i, gt_get_z, gt_iload_n, gt_ink, gt_iconst, gt_iadd, gt_sipush, gt_iaload, gt_iastore, Option.toList, List.cons_append, List.nil_append, Nat.add_zero, ka0_0, ra0_0_0, ka0_1, la0_1]
      refine ⟨fun c_10 => ?_, fun c_10 => ?_⟩
      · replace h := gw_ifp h c_10
        refine hK _ _ _ _ _ _ _ ?_
        rw [fdX11_goOnBy_70]
        simp only [gt_nil, true_and, eq_self, gt_vret, bkX11_goOnBy_70, ka0_0, ra0_0_0, ka0_1, la0_1]
        cases h
        exact ⟨Nat.le_refl _, Nat.le_refl _, hq⟩
      · replace h := gw_ifn h c_10
        obtain ⟨c_11, h⟩ := gw_ife h
        refine ⟨c_11, ?_⟩
        obtain ⟨c_12, h⟩ := gw_ife h
        refine ⟨c_12, ?_⟩
        obtain ⟨μ_13, hμ_13, h⟩ := gw_lt h
        try rw [← hμ_13]
        refine hK _ _ _ _ _ _ _ ?_
        rw [fdX11_goOnBy_70]
        simp only [gt_nil, true_and, eq_self, gt_vret, bkX11_goOnBy_70, ka0_0, ra0_0_0, ka0_1, la0_1]
        cases h
        exact ⟨Nat.le_refl _, Nat.le_refl _, hq⟩
    · replace h := gw_ifn h c_2
      cases h
      exact ⟨Nat.le_refl _, Nat.le_refl _, hq⟩
  · replace h := gw_ifn h c_1
    obtain ⟨c_14, h⟩ := gw_ife h
    refine ⟨c_14, ?_⟩
    obtain ⟨μ_15, hμ_15, h⟩ := gw_lt h
    try rw [← hμ_15]
    refine hK _ _ _ _ _ _ _ ?_
    rw [fdX11_goOnBy_15]
    simp only [gt_nil, true_and, eq_self, gt_iload, gt_ink, gw_nth, gt_if, gt_vret, bkX11_goOnBy_15, ka0_0, ra0_0_0, ka0_1, la0_1]
    refine ⟨fun c_16 => ?_, fun c_16 => ?_⟩
    · replace h := gw_ifp h c_16
      refine hK _ _ _ _ _ _ _ ?_
      rw [fdX11_goOnBy_21]
      simp only [gt_nil, true_and, eq_self, gt_aload_n, gt_rfk, gw_nth, gt_get_r, gt_get_i, gt_get_z, gt_iload_n, gt_ink, gt_sipush, gt_iadd, gt_iconst, gt_iastore, gt_iaload, gt_v0, gt_v1, gt_v2, gt_v3, gt_v4, gt_v5, gt_if, bkX11_goOnBy_21, ka0_0, ra0_0_0, ka0_1, la0_1]
      obtain ⟨c_17, h⟩ := gw_ife h
      refine ⟨c_17, ?_⟩
      obtain ⟨μ_18, hμ_18, h⟩ := gw_lt h
      try rw [← hμ_18]
      obtain ⟨c_19, h⟩ := gw_ife h
      refine ⟨c_19, ?_⟩
      obtain ⟨⟨r_20, μ_21⟩, e_22, h⟩ := gw_bnd h
      refine ⟨rfl, 0, 0, Nat.le_refl _, Nat.le_refl _, ok_X11_hasPlace hS0 e_22 ?_⟩
      intro hbr_20
      dsimp only at h
      simp only [gt_nil, true_and, eq_self, gt_if, gt_aload_n, gt_rfk, gw_nth, gt_get_r, gt_get_i, gt_get_z, gt_iload_n, gt_ink, gt_iconst, gt_iadd, gt_sipush, gt_iaload, gt_iastore, Option.toList, List.cons_append, List.nil_append, Nat.add_zero, ka0_0, ra0_0_0, ka0_1, la0_1]
      refine ⟨fun c_24 => ?_, fun c_24 => ?_⟩
      · replace h := gw_ifp h c_24
        refine hK _ _ _ _ _ _ _ ?_
        rw [fdX11_goOnBy_70]
        simp only [gt_nil, true_and, eq_self, gt_vret, bkX11_goOnBy_70, ka0_0, ra0_0_0, ka0_1, la0_1]
        cases h
        exact ⟨Nat.le_refl _, Nat.le_refl _, hq⟩
      · replace h := gw_ifn h c_24
        obtain ⟨c_25, h⟩ := gw_ife h
        refine ⟨c_25, ?_⟩
        obtain ⟨c_26, h⟩ := gw_ife h
        refine ⟨c_26, ?_⟩
        obtain ⟨μ_27, hμ_27, h⟩ := gw_lt h
        try rw [← hμ_27]
        refine hK _ _ _ _ _ _ _ ?_
        rw [fdX11_goOnBy_70]
        simp only [gt_nil, true_and, eq_self, gt_vret, bkX11_goOnBy_70, ka0_0, ra0_0_0, ka0_1, la0_1]
        cases h
        exact ⟨Nat.le_refl _, Nat.le_refl _, hq⟩
    · replace h := gw_ifn h c_16
      cases h
      exact ⟨Nat.le_refl _, Nat.le_refl _, hq⟩
def F_X11_actNow_201 (n0 : Nat) (a0 : Nat) (s1 : Int32) (s2 : Int32) (μ : gw_M) : Option (gw_M) := (if 0 ≤ s1 ∧ s1.toNatClampNeg < 20813 then gw_let (gw_up μ (a0 + 1) s1.toNatClampNeg s2) (fun (μ_2 : gw_M) => some μ_2) else none)
def F_X11_actNow_154 (n0 : Nat) (a0 : Nat) (s1 : Int32) (s2 : Int32) (s3 : Int32) (s4 : Int32) (μ : gw_M) : Option (gw_M) := (if s4 = 0 ∨ s4 = 1 then (F_X11_goOnBy n0 a0 s1 s2 s3 s4 μ).bind (fun (μ_3 : gw_M) => some μ_3) else none)
def F_X11_actNow (n0 : Nat) (a0 : Nat) (μ : gw_M) : Option (gw_M) := gw_let ((μ (a0 + 1) 2)) (fun (w_1 : Int32) => (F_X11_guestAt n0 a0 w_1 μ).bind (fun (z_5 : Int32 × gw_M) => (if 0 ≤ (z_5.1 + (6 : Int32)) ∧ (z_5.1 + (6 : Int32)).toNatClampNeg < 20813 then (if ¬ (z_5.2 (a0 + 1) (z_5.1 + (6 : Int32)).toNatClampNeg) = 0 then (if 0 ≤ (z_5.1 + (5 : Int32)) ∧ (z_5.1 + (5 : Int32)).toNatClampNeg < 20813 then gw_let ((z_5.2 (a0 + 1) (z_5.1 + (5 : Int32)).toNatClampNeg)) (fun (w_9 : Int32) => (if 0 ≤ ((z_5.1 + (7 : Int32)) + ((3 : Int32) * w_9)) ∧ ((z_5.1 + (7 : Int32)) + ((3 : Int32) * w_9)).toNatClampNeg < 20813 then gw_let ((z_5.2 (a0 + 1) ((z_5.1 + (7 : Int32)) + ((3 : Int32) * w_9)).toNatClampNeg)) (fun (w_11 : Int32) => (if 0 ≤ (((z_5.1 + (7 : Int32)) + ((3 : Int32) * w_9)) + (1 : Int32)) ∧ (((z_5.1 + (7 : Int32)) + ((3 : Int32) * w_9)) + (1 : Int32)).toNatClampNeg < 20813 then gw_let ((z_5.2 (a0 + 1) (((z_5.1 + (7 : Int32)) + ((3 : Int32) * w_9)) + (1 : Int32)).toNatClampNeg)) (fun (w_13 : Int32) => (if 0 ≤ (((z_5.1 + (7 : Int32)) + ((3 : Int32) * w_9)) + (2 : Int32)) ∧ (((z_5.1 + (7 : Int32)) + ((3 : Int32) * w_9)) + (2 : Int32)).toNatClampNeg < 20813 then gw_let ((z_5.2 (a0 + 1) (((z_5.1 + (7 : Int32)) + ((3 : Int32) * w_9)) + (2 : Int32)).toNatClampNeg)) (fun (w_15 : Int32) => (if 0 ≤ (z_5.1 + (6 : Int32)) ∧ (z_5.1 + (6 : Int32)).toNatClampNeg < 20813 then (if ¬ (z_5.2 (a0 + 1) (z_5.1 + (6 : Int32)).toNatClampNeg) = 0 then (if 0 ≤ (z_5.1 + (5 : Int32)) ∧ (z_5.1 + (5 : Int32)).toNatClampNeg < 20813 then gw_let (gw_up z_5.2 (a0 + 1) (z_5.1 + (5 : Int32)).toNatClampNeg ((w_9 + (1 : Int32)) - (w_9 + (1 : Int32)) / (z_5.2 (a0 + 1) (z_5.1 + (6 : Int32)).toNatClampNeg) * (z_5.2 (a0 + 1) (z_5.1 + (6 : Int32)).toNatClampNeg))) (fun (μ_19 : gw_M) => (if 3 ≤ w_11 then (if ¬ w_11 = 3 then (if 6 ≤ w_11 then (if ¬ w_1 = 1 then (F_X11_actInner n0 a0 w_11 w_13 w_15 μ_19).bind (fun (μ_25 : gw_M) => some μ_25) else (F_X11_actOuter n0 a0 w_11 w_13 w_15 μ_19).bind (fun (μ_29 : gw_M) => some μ_29)) else (if ¬ w_11 = 4 then F_X11_actNow_201 n0 a0 (z_5.1 + (2 : Int32)) 0 μ_19 else F_X11_actNow_201 n0 a0 (z_5.1 + (2 : Int32)) 1 μ_19)) else (F_X11_eventNow n0 a0 w_13 μ_19).bind (fun (z_36 : Int32 × gw_M) => some z_36.2)) else gw_let ((μ_19 (a0 + 1) 7)) (fun (w_37 : Int32) => (F_X11_touchNow n0 a0 w_13 w_11 w_15 μ_19).bind (fun (z_41 : Int32 × gw_M) => (if (z_41.2 (a0 + 1) 7) ≤ w_37 then F_X11_actNow_154 n0 a0 z_5.1 w_9 z_41.1 0 z_41.2 else F_X11_actNow_154 n0 a0 z_5.1 w_9 z_41.1 1 z_41.2))))) else none) else none) else none)) else none)) else none)) else none)) else none) else some z_5.2) else none)))
theorem B_X11_actNow_201 {l : Launch} {x : gw_C} {d : Nat} {S : gw_S} {Q : Option Value → gw_S → gw_M → Prop} {K : Nat → gw_Kt} (hK : gw_cl l x (d + 11) bsX11_actNow Q K) {a0 : Nat} (hS0 : gw_sh S 11 a0) {n0 : Nat} {s1 s2} {u1 u2 u3 u4 u5 u6 u7 u8 : Value} {μ : gw_M} {μ'} (h : F_X11_actNow_201 n0 a0 s1 s2 μ = some μ') (hq : Q none S μ') : K 201 [.ref a0, u1, u2, u3, u4, u5, u6, u7, u8] [.int s2, .int s1, .ref (a0 + 1)] S μ 0 0 := by
  have ka0_1 : gw_kd S (a0 + 1) = 12 := (hS0 1 _ rfl).1
  have la0_1 : gw_ln S (a0 + 1) = 20813 := (hS0 1 _ rfl).2.1
  unfold F_X11_actNow_201 at h
  refine hK _ _ _ _ _ _ _ ?_
  rw [fdX11_actNow_201]
  simp only [gt_nil, true_and, eq_self, gt_iastore, gt_goto, bkX11_actNow_201, ka0_1, la0_1]
  obtain ⟨c_1, h⟩ := gw_ife h
  refine ⟨c_1, ?_⟩
  obtain ⟨μ_2, hμ_2, h⟩ := gw_lt h
  try rw [← hμ_2]
  refine hK _ _ _ _ _ _ _ ?_
  rw [fdX11_actNow_233]
  simp only [gt_nil, true_and, eq_self, gt_vret, bkX11_actNow_233, ka0_1, la0_1]
  cases h
  exact ⟨Nat.le_refl _, Nat.le_refl _, hq⟩
theorem B_X11_actNow_154 {l : Launch} {x : gw_C} {d : Nat} {S : gw_S} {Q : Option Value → gw_S → gw_M → Prop} {K : Nat → gw_Kt} (hK : gw_cl l x (d + 11) bsX11_actNow Q K) {a0 : Nat} (hS0 : gw_sh S 11 a0) {n0 : Nat} {s1 s2 s3 s4} {u1 u2 u3 u4 u5 u6 u7 u8 : Value} {μ : gw_M} {μ'} (h : F_X11_actNow_154 n0 a0 s1 s2 s3 s4 μ = some μ') (hq : Q none S μ') : K 154 [.ref a0, u1, u2, u3, u4, u5, u6, u7, u8] [.int s4, .int s3, .int s2, .int s1, .ref (a0 + 0)] S μ 0 0 := by
  have ka0_0 : gw_kd S a0 = 11 := (hS0 0 _ rfl).1
  unfold F_X11_actNow_154 at h
  refine hK _ _ _ _ _ _ _ ?_
  rw [fdX11_actNow_154]
  simp only [gt_nil, true_and, eq_self, gt_v0, gt_v1, gt_v2, gt_v3, gt_v4, gt_v5, gt_goto, bkX11_actNow_154, ka0_0]
  obtain ⟨c_1, h⟩ := gw_ife h
  obtain ⟨μ_3, e_4, h⟩ := gw_bnd h
  refine ⟨rfl, 0, 0, Nat.le_refl _, Nat.le_refl _, ok_X11_goOnBy hS0 c_1 e_4 ?_⟩
  simp only [gt_nil, true_and, eq_self, gt_goto, Option.toList, List.cons_append, List.nil_append, Nat.add_zero, ka0_0]
  refine hK _ _ _ _ _ _ _ ?_
  rw [fdX11_actNow_233]
  simp only [gt_nil, true_and, eq_self, gt_vret, bkX11_actNow_233, ka0_0]
  cases h
  exact ⟨Nat.le_refl _, Nat.le_refl _, hq⟩
theorem ok_X11_actNow {l : Launch} {x : gw_C} {d : Nat} {S : gw_S} {Q : Option Value → gw_S → gw_M → Prop} {a0 : Nat} {n0 : Nat} {μ : gw_M} {μ'} (hS0 : gw_sh S 11 a0) (h : F_X11_actNow n0 a0 μ = some μ') (hq : Q none S μ') : gw_ok l x (d + 12) sgX11_actNow 0 0 [.ref a0] S μ Q := by
  refine gw_ok_of stX11_actNow (lv0 := [.ref a0, .retAddr 0, .retAddr 0, .retAddr 0, .retAddr 0, .retAddr 0, .retAddr 0, .retAddr 0, .retAddr 0]) (Nat.le_of_ble_eq_true rfl) rfl rfl ?_
  intro K hK
  have ka0_0 : gw_kd S a0 = 11 := (hS0 0 _ rfl).1
  have ra0_0_0 : gw_rf S a0 0 = a0 + 1 := (hS0 0 _ rfl).2.2 (0, 1) (by decide)
  have ka0_1 : gw_kd S (a0 + 1) = 12 := (hS0 1 _ rfl).1
  have la0_1 : gw_ln S (a0 + 1) = 20813 := (hS0 1 _ rfl).2.1
  unfold F_X11_actNow at h
  refine hK _ _ _ _ _ _ _ ?_
  rw [fdX11_actNow_0]
  simp only [gt_nil, true_and, eq_self, gt_aload_n, gt_rfk, gw_nth, gt_get_r, gt_get_i, gt_get_z, gt_iconst, gt_iaload, gt_istore_n, gw_set, gt_iload_n, gt_ink, gt_v0, gt_v1, gt_v2, gt_v3, gt_v4, gt_v5, gt_bipush, gt_iadd, gt_if, gt_vret, bkX11_actNow_0, ka0_0, ra0_0_0, ka0_1, la0_1, (show Int32.toNatClampNeg 2 = 2 from rfl), (show Int32.toNatClampNeg 7 = 7 from rfl)]
  refine ⟨(⟨by decide, by decide⟩ : gw_in 2 20813), ?_⟩
  obtain ⟨w_1, hw_1, h⟩ := gw_lt h
  try rw [← hw_1]
  obtain ⟨⟨r_2, μ_3⟩, e_4, h⟩ := gw_bnd h
  refine ⟨rfl, 0, 0, Nat.le_refl _, Nat.le_refl _, ok_X11_guestAt hS0 e_4 ?_⟩
  dsimp only at h
  simp only [gt_nil, true_and, eq_self, gt_istore_n, gw_set, gt_aload_n, gt_rfk, gw_nth, gt_get_r, gt_get_i, gt_get_z, gt_iload_n, gt_ink, gt_bipush, gt_iadd, gt_iaload, gt_if, gt_vret, Option.toList, List.cons_append, List.nil_append, Nat.add_zero, ka0_0, ra0_0_0, ka0_1, la0_1, (show Int32.toNatClampNeg 2 = 2 from rfl), (show Int32.toNatClampNeg 7 = 7 from rfl)]
  obtain ⟨c_6, h⟩ := gw_ife h
  refine ⟨c_6, ?_⟩
  refine ⟨fun c_7 => ?_, fun c_7 => ?_⟩
  · replace h := gw_ifp h c_7
    refine hK _ _ _ _ _ _ _ ?_
    rw [fdX11_actNow_26]
    simp only [gt_nil, true_and, eq_self, gt_aload_n, gt_rfk, gw_nth, gt_get_r, gt_get_i, gt_get_z, gt_iload_n, gt_ink, gt_iconst, gt_iadd, gt_iaload, gt_istore_n, gw_set, gt_bipush, gt_imul, gt_istore, gt_irem, gt_iastore, gt_iload, gt_icmp, gt_v0, gt_v1, gt_v2, gt_v3, gt_v4, gt_v5, gt_goto, bkX11_actNow_26, ka0_0, ra0_0_0, ka0_1, la0_1, (show Int32.toNatClampNeg 2 = 2 from rfl), (show Int32.toNatClampNeg 7 = 7 from rfl)]
    obtain ⟨c_8, h⟩ := gw_ife h
    refine ⟨c_8, ?_⟩
    obtain ⟨w_9, hw_9, h⟩ := gw_lt h
    try rw [← hw_9]
    obtain ⟨c_10, h⟩ := gw_ife h
    refine ⟨c_10, ?_⟩
    obtain ⟨w_11, hw_11, h⟩ := gw_lt h
    try rw [← hw_11]
    obtain ⟨c_12, h⟩ := gw_ife h
    refine ⟨c_12, ?_⟩
    obtain ⟨w_13, hw_13, h⟩ := gw_lt h
    try rw [← hw_13]
    obtain ⟨c_14, h⟩ := gw_ife h
    refine ⟨c_14, ?_⟩
    obtain ⟨w_15, hw_15, h⟩ := gw_lt h
    try rw [← hw_15]
    obtain ⟨c_16, h⟩ := gw_ife h
    refine ⟨c_16, ?_⟩
    obtain ⟨c_17, h⟩ := gw_ife h
    refine ⟨c_17, ?_⟩
    obtain ⟨c_18, h⟩ := gw_ife h
    refine ⟨c_18, ?_⟩
    obtain ⟨μ_19, hμ_19, h⟩ := gw_lt h
    try rw [← hμ_19]
    refine ⟨fun c_20 => ?_, fun c_20 => ?_⟩
    · replace h := gw_ifp h c_20
      refine hK _ _ _ _ _ _ _ ?_
      rw [fdX11_actNow_160]
      simp only [gt_nil, true_and, eq_self, gt_iload, gt_ink, gw_nth, gt_iconst, gt_icmp, gt_aload_n, gt_rfk, gt_v0, gt_v1, gt_v2, gt_v3, gt_v4, gt_v5, gt_pop_i, gt_pop_r, gt_goto, bkX11_actNow_160, ka0_0, ra0_0_0, ka0_1, la0_1, (show Int32.toNatClampNeg 2 = 2 from rfl), (show Int32.toNatClampNeg 7 = 7 from rfl)]
      refine ⟨fun c_21 => ?_, fun c_21 => ?_⟩
      · replace h := gw_ifp h c_21
        refine hK _ _ _ _ _ _ _ ?_
        rw [fdX11_actNow_176]
        simp only [gt_nil, true_and, eq_self, gt_iload, gt_ink, gw_nth, gt_bipush, gt_icmp, gt_aload_n, gt_rfk, gt_get_r, gt_get_i, gt_get_z, gt_iload_n, gt_iconst, gt_iadd, gt_goto, bkX11_actNow_176, ka0_0, ra0_0_0, ka0_1, la0_1, (show Int32.toNatClampNeg 2 = 2 from rfl), (show Int32.toNatClampNeg 7 = 7 from rfl)]
        refine ⟨fun c_22 => ?_, fun c_22 => ?_⟩
        · replace h := gw_ifp h c_22
          refine hK _ _ _ _ _ _ _ ?_
          rw [fdX11_actNow_205]
          simp only [gt_nil, true_and, eq_self, gt_iload_n, gt_ink, gw_nth, gt_iconst, gt_icmp, gt_aload_n, gt_rfk, gt_iload, gt_v0, gt_v1, gt_v2, gt_v3, gt_v4, gt_v5, gt_goto, bkX11_actNow_205, ka0_0, ra0_0_0, ka0_1, la0_1, (show Int32.toNatClampNeg 2 = 2 from rfl), (show Int32.toNatClampNeg 7 = 7 from rfl)]
          refine ⟨fun c_23 => ?_, fun c_23 => ?_⟩
          · replace h := gw_ifp h c_23
            refine hK _ _ _ _ _ _ _ ?_
            rw [fdX11_actNow_223]
            simp only [gt_nil, true_and, eq_self, gt_aload_n, gt_rfk, gw_nth, gt_iload, gt_ink, gt_v0, gt_v1, gt_v2, gt_v3, gt_v4, gt_v5, bkX11_actNow_223, ka0_0, ra0_0_0, ka0_1, la0_1, (show Int32.toNatClampNeg 2 = 2 from rfl), (show Int32.toNatClampNeg 7 = 7 from rfl)]
            obtain ⟨μ_25, e_26, h⟩ := gw_bnd h
            refine ⟨rfl, 0, 0, Nat.le_refl _, Nat.le_refl _, ok_X11_actInner hS0 e_26 ?_⟩
            simp only [gt_nil, true_and, eq_self, Option.toList, List.cons_append, List.nil_append, Nat.add_zero, ka0_0, ra0_0_0, ka0_1, la0_1, (show Int32.toNatClampNeg 2 = 2 from rfl), (show Int32.toNatClampNeg 7 = 7 from rfl)]
            refine hK _ _ _ _ _ _ _ ?_
            rw [fdX11_actNow_233]
            simp only [gt_nil, true_and, eq_self, gt_vret, bkX11_actNow_233, ka0_0, ra0_0_0, ka0_1, la0_1, (show Int32.toNatClampNeg 2 = 2 from rfl), (show Int32.toNatClampNeg 7 = 7 from rfl)]
            cases h
            exact ⟨Nat.le_refl _, Nat.le_refl _, hq⟩
          · replace h := gw_ifn h c_23
            obtain ⟨μ_29, e_30, h⟩ := gw_bnd h
            refine ⟨rfl, 0, 0, Nat.le_refl _, Nat.le_refl _, ok_X11_actOuter hS0 e_30 ?_⟩
            simp only [gt_nil, true_and, eq_self, gt_goto, Option.toList, List.cons_append, List.nil_append, Nat.add_zero, ka0_0, ra0_0_0, ka0_1, la0_1, (show Int32.toNatClampNeg 2 = 2 from rfl), (show Int32.toNatClampNeg 7 = 7 from rfl)]
            refine hK _ _ _ _ _ _ _ ?_
            rw [fdX11_actNow_233]
            simp only [gt_nil, true_and, eq_self, gt_vret, bkX11_actNow_233, ka0_0, ra0_0_0, ka0_1, la0_1, (show Int32.toNatClampNeg 2 = 2 from rfl), (show Int32.toNatClampNeg 7 = 7 from rfl)]
            cases h
            exact ⟨Nat.le_refl _, Nat.le_refl _, hq⟩
        · replace h := gw_ifn h c_22
          refine ⟨fun c_32 => ?_, fun c_32 => ?_⟩
          · replace h := gw_ifp h c_32
            refine hK _ _ _ _ _ _ _ ?_
            rw [fdX11_actNow_200]
            simp only [gt_nil, true_and, eq_self, gt_iconst, bkX11_actNow_200, ka0_0, ra0_0_0, ka0_1, la0_1, (show Int32.toNatClampNeg 2 = 2 from rfl), (show Int32.toNatClampNeg 7 = 7 from rfl)]
            exact B_X11_actNow_201 hK hS0 h hq
          · replace h := gw_ifn h c_32
            exact B_X11_actNow_201 hK hS0 h hq
      · replace h := gw_ifn h c_21
        obtain ⟨⟨r_33, μ_34⟩, e_35, h⟩ := gw_bnd h
        refine ⟨rfl, 0, 0, Nat.le_refl _, Nat.le_refl _, ok_X11_eventNow hS0 e_35 ?_⟩
        dsimp only at h
        simp only [gt_nil, true_and, eq_self, gt_pop_i, gt_pop_r, gt_goto, Option.toList, List.cons_append, List.nil_append, Nat.add_zero, ka0_0, ra0_0_0, ka0_1, la0_1, (show Int32.toNatClampNeg 2 = 2 from rfl), (show Int32.toNatClampNeg 7 = 7 from rfl)]
        refine hK _ _ _ _ _ _ _ ?_
        rw [fdX11_actNow_233]
        simp only [gt_nil, true_and, eq_self, gt_vret, bkX11_actNow_233, ka0_0, ra0_0_0, ka0_1, la0_1, (show Int32.toNatClampNeg 2 = 2 from rfl), (show Int32.toNatClampNeg 7 = 7 from rfl)]
        cases h
        exact ⟨Nat.le_refl _, Nat.le_refl _, hq⟩
    · replace h := gw_ifn h c_20
      refine ⟨(⟨by decide, by decide⟩ : gw_in 7 20813), ?_⟩
      obtain ⟨w_37, hw_37, h⟩ := gw_lt h
      try rw [← hw_37]
      obtain ⟨⟨r_38, μ_39⟩, e_40, h⟩ := gw_bnd h
      refine ⟨rfl, 0, 0, Nat.le_refl _, Nat.le_refl _, ok_X11_touchNow hS0 e_40 ?_⟩
      dsimp only at h
      simp only [gt_nil, true_and, eq_self, gt_istore, gw_set, gt_aload_n, gt_rfk, gw_nth, gt_iload_n, gt_ink, gt_iload, gt_get_r, gt_get_i, gt_get_z, gt_bipush, gt_iaload, gt_icmp, gt_iconst, gt_goto, Option.toList, List.cons_append, List.nil_append, Nat.add_zero, ka0_0, ra0_0_0, ka0_1, la0_1, (show Int32.toNatClampNeg 2 = 2 from rfl), (show Int32.toNatClampNeg 7 = 7 from rfl)]
      refine ⟨(⟨by decide, by decide⟩ : gw_in 7 20813), ?_⟩
      refine ⟨fun c_42 => ?_, fun c_42 => ?_⟩
      · replace h := gw_ifp h c_42
        refine hK _ _ _ _ _ _ _ ?_
        rw [fdX11_actNow_153]
        simp only [gt_nil, true_and, eq_self, gt_iconst, bkX11_actNow_153, ka0_0, ra0_0_0, ka0_1, la0_1, (show Int32.toNatClampNeg 2 = 2 from rfl), (show Int32.toNatClampNeg 7 = 7 from rfl)]
        exact B_X11_actNow_154 hK hS0 h hq
      · replace h := gw_ifn h c_42
        exact B_X11_actNow_154 hK hS0 h hq
  · replace h := gw_ifn h c_7
    cases h
    exact ⟨Nat.le_refl _, Nat.le_refl _, hq⟩
def F_X11_goNow (n0 : Nat) (a0 : Nat) (μ : gw_M) : Option (gw_M) := (F_X11_tick n0 a0 μ).bind (fun (z_4 : Int32 × gw_M) => (F_X11_dealOut n0 a0 z_4.2).bind (fun (μ_6 : gw_M) => (F_X11_actNow n0 a0 μ_6).bind (fun (μ_10 : gw_M) => (F_X11_dealOut n0 a0 μ_10).bind (fun (μ_14 : gw_M) => some μ_14))))
theorem ok_X11_goNow {l : Launch} {x : gw_C} {d : Nat} {S : gw_S} {Q : Option Value → gw_S → gw_M → Prop} {a0 : Nat} {n0 : Nat} {μ : gw_M} {μ'} (hS0 : gw_sh S 11 a0) (h : F_X11_goNow n0 a0 μ = some μ') (hq : Q none S μ') : gw_ok l x (d + 13) sgX11_goNow 0 0 [.ref a0] S μ Q := by
  refine gw_ok_of stX11_goNow (lv0 := [.ref a0]) (Nat.le_of_ble_eq_true rfl) rfl rfl ?_
  intro K hK
  have ka0_0 : gw_kd S a0 = 11 := (hS0 0 _ rfl).1
  unfold F_X11_goNow at h
  refine hK _ _ _ _ _ _ _ ?_
  rw [fdX11_goNow_0]
  simp only [gt_nil, true_and, eq_self, gt_aload_n, gt_rfk, gw_nth, gt_v0, gt_v1, gt_v2, gt_v3, gt_v4, gt_v5, gt_pop_i, gt_pop_r, gt_vret, bkX11_goNow_0, ka0_0]
  obtain ⟨⟨r_1, μ_2⟩, e_3, h⟩ := gw_bnd h
  refine ⟨rfl, 0, 0, Nat.le_refl _, Nat.le_refl _, ok_X11_tick hS0 e_3 ?_⟩
  dsimp only at h
  simp only [gt_nil, true_and, eq_self, gt_pop_i, gt_pop_r, gt_aload_n, gt_rfk, gw_nth, gt_v0, gt_v1, gt_v2, gt_v3, gt_v4, gt_v5, gt_vret, Option.toList, List.cons_append, List.nil_append, Nat.add_zero, ka0_0]
  obtain ⟨μ_6, e_7, h⟩ := gw_bnd h
  refine ⟨rfl, 0, 0, Nat.le_refl _, Nat.le_refl _, ok_X11_dealOut hS0 e_7 ?_⟩
  simp only [gt_nil, true_and, eq_self, gt_aload_n, gt_rfk, gw_nth, gt_v0, gt_v1, gt_v2, gt_v3, gt_v4, gt_v5, gt_vret, Option.toList, List.cons_append, List.nil_append, Nat.add_zero, ka0_0]
  obtain ⟨μ_10, e_11, h⟩ := gw_bnd h
  refine ⟨rfl, 0, 0, Nat.le_refl _, Nat.le_refl _, ok_X11_actNow hS0 e_11 ?_⟩
  simp only [gt_nil, true_and, eq_self, gt_aload_n, gt_rfk, gw_nth, gt_v0, gt_v1, gt_v2, gt_v3, gt_v4, gt_v5, gt_vret, Option.toList, List.cons_append, List.nil_append, Nat.add_zero, ka0_0]
  obtain ⟨μ_14, e_15, h⟩ := gw_bnd h
  refine ⟨rfl, 0, 0, Nat.le_refl _, Nat.le_refl _, ok_X11_dealOut hS0 e_15 ?_⟩
  simp only [gt_nil, true_and, eq_self, gt_vret, Option.toList, List.cons_append, List.nil_append, Nat.add_zero, ka0_0]
  cases h
  exact ⟨Nat.le_refl _, Nat.le_refl _, hq⟩
def F_X11_canGo_26 (n0 : Nat) (a0 : Nat) (μ : gw_M) : Option (Int32 × gw_M) := some (0, μ)
def F_X11_canGo (n0 : Nat) (a0 : Nat) (v1 : Int32) (v2 : Int32) (μ : gw_M) : Option (Int32 × gw_M) := (F_X11_isIn n0 v1 1 v2 μ).bind (fun (z_4 : Int32 × gw_M) => (if z_4.1 = 0 then F_X11_canGo_26 n0 a0 z_4.2 else (if 99999 < ((z_4.2 (a0 + 1) 3) + v1) then F_X11_canGo_26 n0 a0 z_4.2 else some (1, z_4.2))))
theorem B_X11_canGo_26 {l : Launch} {x : gw_C} {d : Nat} {S : gw_S} {Q : Option Value → gw_S → gw_M → Prop} {K : Nat → gw_Kt} (hK : gw_cl l x (d + 1) bsX11_canGo Q K) {a0 : Nat} (hS0 : gw_sh S 11 a0) {n0 : Nat}  {u1 u2 : Value} {μ : gw_M} {r μ'} (h : F_X11_canGo_26 n0 a0 μ = some (r, μ')) (hq : ((r = 0 ∨ r = 1) → Q (some (.int r)) S μ')) : K 26 [.ref a0, u1, u2] [] S μ 0 0 := by
  unfold F_X11_canGo_26 at h
  refine hK _ _ _ _ _ _ _ ?_
  rw [fdX11_canGo_26]
  simp only [gt_nil, true_and, eq_self, gt_iconst, bkX11_canGo_26]
  refine hK _ _ _ _ _ _ _ ?_
  rw [fdX11_canGo_27]
  simp only [gt_nil, true_and, eq_self, gt_iret, gt_retz, bkX11_canGo_27]
  cases h
  exact ⟨(Or.inl rfl), Nat.le_refl _, Nat.le_refl _, hq (Or.inl rfl)⟩
theorem ok_X11_canGo {l : Launch} {x : gw_C} {d : Nat} {S : gw_S} {Q : Option Value → gw_S → gw_M → Prop} {v1 v2 : Int32} {a0 : Nat} {n0 : Nat} {μ : gw_M} {r μ'} (hS0 : gw_sh S 11 a0) (h : F_X11_canGo n0 a0 v1 v2 μ = some (r, μ')) (hq : ((r = 0 ∨ r = 1) → Q (some (.int r)) S μ')) : gw_ok l x (d + 2) sgX11_canGo 0 0 [.ref a0, .int v1, .int v2] S μ Q := by
  refine gw_ok_of stX11_canGo (lv0 := [.ref a0, .int v1, .int v2]) (Nat.le_of_ble_eq_true rfl) rfl rfl ?_
  intro K hK
  have ka0_0 : gw_kd S a0 = 11 := (hS0 0 _ rfl).1
  have ra0_0_0 : gw_rf S a0 0 = a0 + 1 := (hS0 0 _ rfl).2.2 (0, 1) (by decide)
  have ka0_1 : gw_kd S (a0 + 1) = 12 := (hS0 1 _ rfl).1
  have la0_1 : gw_ln S (a0 + 1) = 20813 := (hS0 1 _ rfl).2.1
  unfold F_X11_canGo at h
  refine hK _ _ _ _ _ _ _ ?_
  rw [fdX11_canGo_0]
  simp only [gt_nil, true_and, eq_self, gt_iload_n, gt_ink, gw_nth, gt_iconst, gt_s1_0, gt_s2_0, gt_s3_0, gt_s4_0, gt_s1_1, gt_s2_1, gt_s3_1, gt_s4_1, gt_acpy, gt_if, gt_aload_n, gt_rfk, gt_get_r, gt_get_i, gt_get_z, gt_iaload, gt_iadd, gt_ldc, gt_icmp, gt_goto, bkX11_canGo_0, ka0_0, ra0_0_0, ka0_1, la0_1, (show Int32.toNatClampNeg 3 = 3 from rfl)]
  obtain ⟨⟨r_1, μ_2⟩, e_3, h⟩ := gw_bnd h
  refine ⟨rfl, 0, 0, Nat.le_refl _, Nat.le_refl _, ok_X11_isIn e_3 ?_⟩
  intro hbr_1
  dsimp only at h
  simp only [gt_nil, true_and, eq_self, gt_if, gt_aload_n, gt_rfk, gw_nth, gt_get_r, gt_get_i, gt_get_z, gt_iconst, gt_iaload, gt_iload_n, gt_ink, gt_iadd, gt_ldc, gt_icmp, gt_goto, Option.toList, List.cons_append, List.nil_append, Nat.add_zero, ka0_0, ra0_0_0, ka0_1, la0_1, (show Int32.toNatClampNeg 3 = 3 from rfl)]
  refine ⟨fun c_5 => ?_, fun c_5 => ?_⟩
  · replace h := gw_ifp h c_5
    exact B_X11_canGo_26 hK hS0 h hq
  · replace h := gw_ifn h c_5
    refine ⟨(⟨by decide, by decide⟩ : gw_in 3 20813), ?_⟩
    refine ⟨fun c_6 => ?_, fun c_6 => ?_⟩
    · replace h := gw_ifp h c_6
      exact B_X11_canGo_26 hK hS0 h hq
    · replace h := gw_ifn h c_6
      refine hK _ _ _ _ _ _ _ ?_
      rw [fdX11_canGo_27]
      simp only [gt_nil, true_and, eq_self, gt_iret, gt_retz, bkX11_canGo_27, ka0_0, ra0_0_0, ka0_1, la0_1, (show Int32.toNatClampNeg 3 = 3 from rfl)]
      cases h
      exact ⟨(Or.inr rfl), Nat.le_refl _, Nat.le_refl _, hq (Or.inr rfl)⟩
def F_X11_exitsAll (n0 : Nat) (a0 : Nat) (μ : gw_M) : Option (Int32 × gw_M) := some (((μ (a0 + 1) 5) + (μ (a0 + 1) 6)), μ)
theorem ok_X11_exitsAll {l : Launch} {x : gw_C} {d : Nat} {S : gw_S} {Q : Option Value → gw_S → gw_M → Prop} {a0 : Nat} {n0 : Nat} {μ : gw_M} {r μ'} (hS0 : gw_sh S 11 a0) (h : F_X11_exitsAll n0 a0 μ = some (r, μ')) (hq : Q (some (.int r)) S μ') : gw_ok l x (d + 1) sgX11_exitsAll 0 0 [.ref a0] S μ Q := by
  refine gw_ok_of stX11_exitsAll (lv0 := [.ref a0]) (Nat.le_of_ble_eq_true rfl) rfl rfl ?_
  intro K hK
  have ka0_0 : gw_kd S a0 = 11 := (hS0 0 _ rfl).1
  have ra0_0_0 : gw_rf S a0 0 = a0 + 1 := (hS0 0 _ rfl).2.2 (0, 1) (by decide)
  have ka0_1 : gw_kd S (a0 + 1) = 12 := (hS0 1 _ rfl).1
  have la0_1 : gw_ln S (a0 + 1) = 20813 := (hS0 1 _ rfl).2.1
  unfold F_X11_exitsAll at h
  refine hK _ _ _ _ _ _ _ ?_
  rw [fdX11_exitsAll_0]
  simp only [gt_nil, true_and, eq_self, gt_aload_n, gt_rfk, gw_nth, gt_get_r, gt_get_i, gt_get_z, gt_iconst, gt_iaload, gt_bipush, gt_iadd, gt_iret, gt_retz, bkX11_exitsAll_0, ka0_0, ra0_0_0, ka0_1, la0_1, (show Int32.toNatClampNeg 5 = 5 from rfl), (show Int32.toNatClampNeg 6 = 6 from rfl)]
  refine ⟨(⟨by decide, by decide⟩ : gw_in 5 20813), ?_⟩
  refine ⟨(⟨by decide, by decide⟩ : gw_in 6 20813), ?_⟩
  cases h
  exact ⟨Nat.le_refl _, Nat.le_refl _, hq⟩
def F_X11_run_24 (n0 : Nat) (a0 : Nat) : Nat → Int32 → Int32 → Int32 → gw_M → Option (Int32 × gw_M)
  | 0, _, _, _, _ => none
  | n + 1, v1, v2, v3, μ => (if v1 ≤ v3 then (F_X11_exitsAll n0 a0 μ).bind (fun (z_5 : Int32 × gw_M) => some ((z_5.1 - v2), z_5.2)) else (F_X11_goNow n0 a0 μ).bind (fun (μ_7 : gw_M) => gw_let (v3 + 1) (fun (w_10 : Int32) => F_X11_run_24 n0 a0 n v1 v2 w_10 μ_7)))
def F_X11_run (n0 : Nat) (a0 : Nat) (v1 : Int32) (μ : gw_M) : Option (Int32 × gw_M) := (F_X11_canGo n0 a0 v1 200 μ).bind (fun (z_4 : Int32 × gw_M) => (if ¬ z_4.1 = 0 then (F_X11_keep n0 a0 z_4.2).bind (fun (μ_7 : gw_M) => (F_X11_exitsAll n0 a0 μ_7).bind (fun (z_13 : Int32 × gw_M) => F_X11_run_24 n0 a0 n0 v1 z_13.1 0 z_13.2)) else some ((-1), z_4.2)))
theorem B_X11_run_24 {l : Launch} {x : gw_C} {d : Nat} {S : gw_S} {Q : Option Value → gw_S → gw_M → Prop} {K : Nat → gw_Kt} (hK : gw_cl l x (d + 13) bsX11_run Q K) {a0 : Nat} (hS0 : gw_sh S 11 a0) {n0 : Nat} : ∀ {n : Nat} {v1 v2 v3} {μ : gw_M} {r μ'}, F_X11_run_24 n0 a0 n v1 v2 v3 μ = some (r, μ') → Q (some (.int r)) S μ' → K 24 [.ref a0, .int v1, .int v2, .int v3] [] S μ 0 0 := by
  have ka0_0 : gw_kd S a0 = 11 := (hS0 0 _ rfl).1
  intro n
  induction n with
  | zero => intro v1 v2 v3 μ r μ' h hq; simp [F_X11_run_24] at h
  | succ n ih =>
    intro v1 v2 v3 μ r μ' h hq
    simp only [F_X11_run_24] at h
    refine hK _ _ _ _ _ _ _ ?_
    rw [fdX11_run_24]
    simp only [gt_nil, true_and, eq_self, gt_iload_n, gt_ink, gw_nth, gt_icmp, gt_aload_n, gt_rfk, gt_v0, gt_v1, gt_v2, gt_v3, gt_v4, gt_v5, gt_iinc, gw_set, gt_goto, bkX11_run_24, ka0_0]
    refine ⟨fun c_1 => ?_, fun c_1 => ?_⟩
    · replace h := gw_ifp h c_1
      refine hK _ _ _ _ _ _ _ ?_
      rw [fdX11_run_39]
      simp only [gt_nil, true_and, eq_self, gt_aload_n, gt_rfk, gw_nth, gt_v0, gt_v1, gt_v2, gt_v3, gt_v4, gt_v5, gt_iload_n, gt_ink, gt_isub, gt_iret, gt_retz, bkX11_run_39, ka0_0]
      obtain ⟨⟨r_2, μ_3⟩, e_4, h⟩ := gw_bnd h
      refine ⟨rfl, 0, 0, Nat.le_refl _, Nat.le_refl _, ok_X11_exitsAll hS0 e_4 ?_⟩
      dsimp only at h
      simp only [gt_nil, true_and, eq_self, gt_iload_n, gt_ink, gw_nth, gt_isub, gt_iret, gt_retz, Option.toList, List.cons_append, List.nil_append, Nat.add_zero, ka0_0]
      cases h
      exact ⟨Nat.le_refl _, Nat.le_refl _, hq⟩
    · replace h := gw_ifn h c_1
      obtain ⟨μ_7, e_8, h⟩ := gw_bnd h
      refine ⟨rfl, 0, 0, Nat.le_refl _, Nat.le_refl _, ok_X11_goNow hS0 e_8 ?_⟩
      simp only [gt_nil, true_and, eq_self, gt_iinc, gt_ink, gw_nth, gw_set, gt_goto, Option.toList, List.cons_append, List.nil_append, Nat.add_zero, ka0_0]
      obtain ⟨w_10, hw_10, h⟩ := gw_lt h
      try rw [← hw_10]
      exact ih h hq
theorem ok_X11_run {l : Launch} {x : gw_C} {d : Nat} {S : gw_S} {Q : Option Value → gw_S → gw_M → Prop} {v1 : Int32} {a0 : Nat} {n0 : Nat} {μ : gw_M} {r μ'} (hS0 : gw_sh S 11 a0) (h : F_X11_run n0 a0 v1 μ = some (r, μ')) (hq : Q (some (.int r)) S μ') : gw_ok l x (d + 14) sgX11_run 0 0 [.ref a0, .int v1] S μ Q := by
  refine gw_ok_of stX11_run (lv0 := [.ref a0, .int v1, .retAddr 0, .retAddr 0]) (Nat.le_of_ble_eq_true rfl) rfl rfl ?_
  intro K hK
  have ka0_0 : gw_kd S a0 = 11 := (hS0 0 _ rfl).1
  unfold F_X11_run at h
  refine hK _ _ _ _ _ _ _ ?_
  rw [fdX11_run_0]
  simp only [gt_nil, true_and, eq_self, gt_aload_n, gt_rfk, gw_nth, gt_iload_n, gt_ink, gt_sipush, gt_v0, gt_v1, gt_v2, gt_v3, gt_v4, gt_v5, gt_if, gt_iconst, gt_iret, gt_retz, bkX11_run_0, ka0_0]
  obtain ⟨⟨r_1, μ_2⟩, e_3, h⟩ := gw_bnd h
  refine ⟨rfl, 0, 0, Nat.le_refl _, Nat.le_refl _, ok_X11_canGo hS0 e_3 ?_⟩
  intro hbr_1
  dsimp only at h
  simp only [gt_nil, true_and, eq_self, gt_if, gt_iconst, gt_iret, gt_retz, Option.toList, List.cons_append, List.nil_append, Nat.add_zero, ka0_0]
  refine ⟨fun c_5 => ?_, fun c_5 => ?_⟩
  · replace h := gw_ifp h c_5
    refine hK _ _ _ _ _ _ _ ?_
    rw [fdX11_run_13]
    simp only [gt_nil, true_and, eq_self, gt_aload_n, gt_rfk, gw_nth, gt_v0, gt_v1, gt_v2, gt_v3, gt_v4, gt_v5, gt_istore_n, gw_set, gt_iconst, bkX11_run_13, ka0_0]
    obtain ⟨μ_7, e_8, h⟩ := gw_bnd h
    refine ⟨rfl, 0, 0, Nat.le_refl _, Nat.le_refl _, ok_X11_keep hS0 e_8 ?_⟩
    simp only [gt_nil, true_and, eq_self, gt_aload_n, gt_rfk, gw_nth, gt_v0, gt_v1, gt_v2, gt_v3, gt_v4, gt_v5, gt_istore_n, gw_set, gt_iconst, Option.toList, List.cons_append, List.nil_append, Nat.add_zero, ka0_0]
    obtain ⟨⟨r_10, μ_11⟩, e_12, h⟩ := gw_bnd h
    refine ⟨rfl, 0, 0, Nat.le_refl _, Nat.le_refl _, ok_X11_exitsAll hS0 e_12 ?_⟩
    dsimp only at h
    simp only [gt_nil, true_and, eq_self, gt_istore_n, gw_set, gt_iconst, Option.toList, List.cons_append, List.nil_append, Nat.add_zero, ka0_0]
    exact B_X11_run_24 hK hS0 h hq
  · replace h := gw_ifn h c_5
    cases h
    exact ⟨Nat.le_refl _, Nat.le_refl _, hq⟩
def F_X11_freeFrames_33 (rec4 : Int32 → Int32 → gw_M → Option (Int32 × gw_M)) (n0 : Nat) (a0 : Nat) (v2 : Int32) (s0 : Int32) (s1 : Int32) (μ : gw_M) : Option (Int32 × gw_M) := gw_let ((s0 ||| s1)) (fun (w_1 : Int32) => gw_let (v2 + 1) (fun (w_2 : Int32) => rec4 w_1 w_2 μ))
def F_X11_freeFrames_4 (n0 : Nat) (a0 : Nat) : Nat → Int32 → Int32 → gw_M → Option (Int32 × gw_M)
  | 0, _, _, _ => none
  | n + 1, v1, v2, μ => (if 16 ≤ v2 then (F_X11_many n0 v1 μ).bind (fun (z_5 : Int32 × gw_M) => some (((10 : Int32) - z_5.1), z_5.2)) else (F_X11_toOf n0 a0 2 v2 μ).bind (fun (z_9 : Int32 × gw_M) => (if ¬ z_9.1 = (-1) then (F_X11_toOf n0 a0 2 v2 z_9.2).bind (fun (z_14 : Int32 × gw_M) => F_X11_freeFrames_33 (F_X11_freeFrames_4 n0 a0 n) n0 a0 v2 v1 ((1 : Int32) <<< (z_14.1 &&& 31)) z_14.2) else F_X11_freeFrames_33 (F_X11_freeFrames_4 n0 a0 n) n0 a0 v2 v1 0 z_9.2)))
def F_X11_freeFrames (n0 : Nat) (a0 : Nat) (μ : gw_M) : Option (Int32 × gw_M) := F_X11_freeFrames_4 n0 a0 n0 0 0 μ
theorem B_X11_freeFrames_33 {l : Launch} {x : gw_C} {d : Nat} {S : gw_S} {Q : Option Value → gw_S → gw_M → Prop} {K : Nat → gw_Kt} (hK : gw_cl l x (d + 3) bsX11_freeFrames Q K) {a0 : Nat} (hS0 : gw_sh S 11 a0) {rec4 : Int32 → Int32 → gw_M → Option (Int32 × gw_M)} (hrec4 : ∀ {v1 v2} {μ : gw_M} {r μ'}, rec4 v1 v2 μ = some (r, μ') → Q (some (.int r)) S μ' → K 4 [.ref a0, .int v1, .int v2] [] S μ 0 0) {n0 : Nat} {v2 s0 s1} {u1 : Value} {μ : gw_M} {r μ'} (h : F_X11_freeFrames_33 rec4 n0 a0 v2 s0 s1 μ = some (r, μ')) (hq : Q (some (.int r)) S μ') : K 33 [.ref a0, u1, .int v2] [.int s1, .int s0] S μ 0 0 := by
  unfold F_X11_freeFrames_33 at h
  refine hK _ _ _ _ _ _ _ ?_
  rw [fdX11_freeFrames_33]
  simp only [gt_nil, true_and, eq_self, gt_ior, gt_istore_n, gw_set, gt_iinc, gt_ink, gw_nth, gt_goto, bkX11_freeFrames_33]
  obtain ⟨w_1, hw_1, h⟩ := gw_lt h
  try rw [← hw_1]
  obtain ⟨w_2, hw_2, h⟩ := gw_lt h
  try rw [← hw_2]
  exact hrec4 h hq
theorem B_X11_freeFrames_4 {l : Launch} {x : gw_C} {d : Nat} {S : gw_S} {Q : Option Value → gw_S → gw_M → Prop} {K : Nat → gw_Kt} (hK : gw_cl l x (d + 3) bsX11_freeFrames Q K) {a0 : Nat} (hS0 : gw_sh S 11 a0) {n0 : Nat} : ∀ {n : Nat} {v1 v2} {μ : gw_M} {r μ'}, F_X11_freeFrames_4 n0 a0 n v1 v2 μ = some (r, μ') → Q (some (.int r)) S μ' → K 4 [.ref a0, .int v1, .int v2] [] S μ 0 0 := by
  have ka0_0 : gw_kd S a0 = 11 := (hS0 0 _ rfl).1
  intro n
  induction n with
  | zero => intro v1 v2 μ r μ' h hq; simp [F_X11_freeFrames_4] at h
  | succ n ih =>
    intro v1 v2 μ r μ' h hq
    simp only [F_X11_freeFrames_4] at h
    refine hK _ _ _ _ _ _ _ ?_
    rw [fdX11_freeFrames_4]
    simp only [gt_nil, true_and, eq_self, gt_iload_n, gt_ink, gw_nth, gt_bipush, gt_icmp, gt_aload_n, gt_rfk, gt_iconst, gt_v0, gt_v1, gt_v2, gt_v3, gt_v4, gt_v5, gt_goto, bkX11_freeFrames_4, ka0_0]
    refine ⟨fun c_1 => ?_, fun c_1 => ?_⟩
    · replace h := gw_ifp h c_1
      refine hK _ _ _ _ _ _ _ ?_
      rw [fdX11_freeFrames_41]
      simp only [gt_nil, true_and, eq_self, gt_bipush, gt_iload_n, gt_ink, gw_nth, gt_s1_0, gt_s2_0, gt_s3_0, gt_s4_0, gt_s1_1, gt_s2_1, gt_s3_1, gt_s4_1, gt_acpy, gt_isub, gt_iret, gt_retz, bkX11_freeFrames_41, ka0_0]
      obtain ⟨⟨r_2, μ_3⟩, e_4, h⟩ := gw_bnd h
      refine ⟨rfl, 0, 0, Nat.le_refl _, Nat.le_refl _, ok_X11_many e_4 ?_⟩
      dsimp only at h
      simp only [gt_nil, true_and, eq_self, gt_isub, gt_iret, gt_retz, Option.toList, List.cons_append, List.nil_append, Nat.add_zero, ka0_0]
      cases h
      exact ⟨Nat.le_refl _, Nat.le_refl _, hq⟩
    · replace h := gw_ifn h c_1
      obtain ⟨⟨r_6, μ_7⟩, e_8, h⟩ := gw_bnd h
      refine ⟨rfl, 0, 0, Nat.le_refl _, Nat.le_refl _, ok_X11_toOf hS0 e_8 ?_⟩
      dsimp only at h
      simp only [gt_nil, true_and, eq_self, gt_iconst, gt_icmp, gt_goto, Option.toList, List.cons_append, List.nil_append, Nat.add_zero, ka0_0]
      refine ⟨fun c_10 => ?_, fun c_10 => ?_⟩
      · replace h := gw_ifp h c_10
        refine hK _ _ _ _ _ _ _ ?_
        rw [fdX11_freeFrames_25]
        simp only [gt_nil, true_and, eq_self, gt_iconst, gt_aload_n, gt_rfk, gw_nth, gt_iload_n, gt_ink, gt_v0, gt_v1, gt_v2, gt_v3, gt_v4, gt_v5, gt_ishl, bkX11_freeFrames_25, ka0_0]
        obtain ⟨⟨r_11, μ_12⟩, e_13, h⟩ := gw_bnd h
        refine ⟨rfl, 0, 0, Nat.le_refl _, Nat.le_refl _, ok_X11_toOf hS0 e_13 ?_⟩
        dsimp only at h
        simp only [gt_nil, true_and, eq_self, gt_ishl, Option.toList, List.cons_append, List.nil_append, Nat.add_zero, ka0_0]
        exact B_X11_freeFrames_33 hK hS0 ih h hq
      · replace h := gw_ifn h c_10
        exact B_X11_freeFrames_33 hK hS0 ih h hq
theorem ok_X11_freeFrames {l : Launch} {x : gw_C} {d : Nat} {S : gw_S} {Q : Option Value → gw_S → gw_M → Prop} {a0 : Nat} {n0 : Nat} {μ : gw_M} {r μ'} (hS0 : gw_sh S 11 a0) (h : F_X11_freeFrames n0 a0 μ = some (r, μ')) (hq : Q (some (.int r)) S μ') : gw_ok l x (d + 4) sgX11_freeFrames 0 0 [.ref a0] S μ Q := by
  refine gw_ok_of stX11_freeFrames (lv0 := [.ref a0, .retAddr 0, .retAddr 0]) (Nat.le_of_ble_eq_true rfl) rfl rfl ?_
  intro K hK
  unfold F_X11_freeFrames at h
  refine hK _ _ _ _ _ _ _ ?_
  rw [fdX11_freeFrames_0]
  simp only [gt_nil, true_and, eq_self, gt_iconst, gt_istore_n, gw_set, bkX11_freeFrames_0]
  exact B_X11_freeFrames_4 hK hS0 h hq
def F_X11_is_156 (n0 : Nat) (a0 : Nat) (v1 : Int32) (μ : gw_M) : Option (Int32 × gw_M) := (F_X11_isIn n0 v1 5 10 μ).bind (fun (z_4 : Int32 × gw_M) => (if z_4.1 = 0 then (F_X11_isIn n0 v1 13 16 z_4.2).bind (fun (z_9 : Int32 × gw_M) => (if z_9.1 = 0 then some ((-1), z_9.2) else (if 0 ≤ (((11 : Int32) + v1) - (13 : Int32)) ∧ (((11 : Int32) + v1) - (13 : Int32)).toNatClampNeg < 20813 then some ((z_9.2 (a0 + 1) (((11 : Int32) + v1) - (13 : Int32)).toNatClampNeg), z_9.2) else none))) else (if 0 ≤ (((5 : Int32) + v1) - (5 : Int32)) ∧ (((5 : Int32) + v1) - (5 : Int32)).toNatClampNeg < 20813 then some ((z_4.2 (a0 + 1) (((5 : Int32) + v1) - (5 : Int32)).toNatClampNeg), z_4.2) else none)))
def F_X11_is (n0 : Nat) (a0 : Nat) (v1 : Int32) (μ : gw_M) : Option (Int32 × gw_M) := (if v1 = (0 : Int32) then some ((μ (a0 + 1) 2), μ) else (if v1 = ((0 : Int32) + 1) then some ((μ (a0 + 1) 3), μ) else (if v1 = (((0 : Int32) + 1) + 1) then some ((μ (a0 + 1) 4), μ) else (if v1 = ((((0 : Int32) + 1) + 1) + 1) then some ((μ (a0 + 1) 23), μ) else (if v1 = (((((0 : Int32) + 1) + 1) + 1) + 1) then (F_X11_freeFrames n0 a0 μ).bind (fun (z_9 : Int32 × gw_M) => some (z_9.1, z_9.2)) else (if v1 = ((((((0 : Int32) + 1) + 1) + 1) + 1) + 1) then F_X11_is_156 n0 a0 v1 μ else (if v1 = (((((((0 : Int32) + 1) + 1) + 1) + 1) + 1) + 1) then F_X11_is_156 n0 a0 v1 μ else (if v1 = ((((((((0 : Int32) + 1) + 1) + 1) + 1) + 1) + 1) + 1) then F_X11_is_156 n0 a0 v1 μ else (if v1 = (((((((((0 : Int32) + 1) + 1) + 1) + 1) + 1) + 1) + 1) + 1) then F_X11_is_156 n0 a0 v1 μ else (if v1 = ((((((((((0 : Int32) + 1) + 1) + 1) + 1) + 1) + 1) + 1) + 1) + 1) then F_X11_is_156 n0 a0 v1 μ else (if v1 = (((((((((((0 : Int32) + 1) + 1) + 1) + 1) + 1) + 1) + 1) + 1) + 1) + 1) then F_X11_is_156 n0 a0 v1 μ else (if v1 = ((((((((((((0 : Int32) + 1) + 1) + 1) + 1) + 1) + 1) + 1) + 1) + 1) + 1) + 1) then (F_X11_guestAt n0 a0 1 μ).bind (fun (z_20 : Int32 × gw_M) => (if 0 ≤ (z_20.1 + (5 : Int32)) ∧ (z_20.1 + (5 : Int32)).toNatClampNeg < 20813 then some ((z_20.2 (a0 + 1) (z_20.1 + (5 : Int32)).toNatClampNeg), z_20.2) else none)) else (if v1 = (((((((((((((0 : Int32) + 1) + 1) + 1) + 1) + 1) + 1) + 1) + 1) + 1) + 1) + 1) + 1) then (F_X11_guestAt n0 a0 2 μ).bind (fun (z_26 : Int32 × gw_M) => (if 0 ≤ (z_26.1 + (5 : Int32)) ∧ (z_26.1 + (5 : Int32)).toNatClampNeg < 20813 then some ((z_26.2 (a0 + 1) (z_26.1 + (5 : Int32)).toNatClampNeg), z_26.2) else none)) else (if v1 = ((((((((((((((0 : Int32) + 1) + 1) + 1) + 1) + 1) + 1) + 1) + 1) + 1) + 1) + 1) + 1) + 1) then F_X11_is_156 n0 a0 v1 μ else (if v1 = (((((((((((((((0 : Int32) + 1) + 1) + 1) + 1) + 1) + 1) + 1) + 1) + 1) + 1) + 1) + 1) + 1) + 1) then F_X11_is_156 n0 a0 v1 μ else (if v1 = ((((((((((((((((0 : Int32) + 1) + 1) + 1) + 1) + 1) + 1) + 1) + 1) + 1) + 1) + 1) + 1) + 1) + 1) + 1) then F_X11_is_156 n0 a0 v1 μ else (if v1 = (((((((((((((((((0 : Int32) + 1) + 1) + 1) + 1) + 1) + 1) + 1) + 1) + 1) + 1) + 1) + 1) + 1) + 1) + 1) + 1) then F_X11_is_156 n0 a0 v1 μ else (if v1 = ((((((((((((((((((0 : Int32) + 1) + 1) + 1) + 1) + 1) + 1) + 1) + 1) + 1) + 1) + 1) + 1) + 1) + 1) + 1) + 1) + 1) then some ((μ (a0 + 1) 15), μ) else F_X11_is_156 n0 a0 v1 μ))))))))))))))))))
theorem B_X11_is_156 {l : Launch} {x : gw_C} {d : Nat} {S : gw_S} {Q : Option Value → gw_S → gw_M → Prop} {K : Nat → gw_Kt} (hK : gw_cl l x (d + 4) bsX11_is Q K) {a0 : Nat} (hS0 : gw_sh S 11 a0) {n0 : Nat} {v1} {μ : gw_M} {r μ'} (h : F_X11_is_156 n0 a0 v1 μ = some (r, μ')) (hq : Q (some (.int r)) S μ') : K 156 [.ref a0, .int v1] [] S μ 0 0 := by
  have ka0_0 : gw_kd S a0 = 11 := (hS0 0 _ rfl).1
  have ra0_0_0 : gw_rf S a0 0 = a0 + 1 := (hS0 0 _ rfl).2.2 (0, 1) (by decide)
  have ka0_1 : gw_kd S (a0 + 1) = 12 := (hS0 1 _ rfl).1
  have la0_1 : gw_ln S (a0 + 1) = 20813 := (hS0 1 _ rfl).2.1
  unfold F_X11_is_156 at h
  refine hK _ _ _ _ _ _ _ ?_
  rw [fdX11_is_156]
  simp only [gt_nil, true_and, eq_self, gt_iload_n, gt_ink, gw_nth, gt_iconst, gt_bipush, gt_s1_0, gt_s2_0, gt_s3_0, gt_s4_0, gt_s1_1, gt_s2_1, gt_s3_1, gt_s4_1, gt_acpy, gt_if, gt_aload_n, gt_rfk, gt_get_r, gt_get_i, gt_get_z, gt_iadd, gt_isub, gt_iaload, gt_goto, bkX11_is_156, ka0_0, ra0_0_0, ka0_1, la0_1]
  obtain ⟨⟨r_1, μ_2⟩, e_3, h⟩ := gw_bnd h
  refine ⟨rfl, 0, 0, Nat.le_refl _, Nat.le_refl _, ok_X11_isIn e_3 ?_⟩
  intro hbr_1
  dsimp only at h
  simp only [gt_nil, true_and, eq_self, gt_if, gt_aload_n, gt_rfk, gw_nth, gt_get_r, gt_get_i, gt_get_z, gt_iconst, gt_iload_n, gt_ink, gt_iadd, gt_isub, gt_iaload, gt_goto, Option.toList, List.cons_append, List.nil_append, Nat.add_zero, ka0_0, ra0_0_0, ka0_1, la0_1]
  refine ⟨fun c_5 => ?_, fun c_5 => ?_⟩
  · replace h := gw_ifp h c_5
    refine hK _ _ _ _ _ _ _ ?_
    rw [fdX11_is_179]
    simp only [gt_nil, true_and, eq_self, gt_iload_n, gt_ink, gw_nth, gt_bipush, gt_s1_0, gt_s2_0, gt_s3_0, gt_s4_0, gt_s1_1, gt_s2_1, gt_s3_1, gt_s4_1, gt_acpy, gt_if, gt_aload_n, gt_rfk, gt_get_r, gt_get_i, gt_get_z, gt_iadd, gt_isub, gt_iaload, gt_goto, bkX11_is_179, ka0_0, ra0_0_0, ka0_1, la0_1]
    obtain ⟨⟨r_6, μ_7⟩, e_8, h⟩ := gw_bnd h
    refine ⟨rfl, 0, 0, Nat.le_refl _, Nat.le_refl _, ok_X11_isIn e_8 ?_⟩
    intro hbr_6
    dsimp only at h
    simp only [gt_nil, true_and, eq_self, gt_if, gt_aload_n, gt_rfk, gw_nth, gt_get_r, gt_get_i, gt_get_z, gt_bipush, gt_iload_n, gt_ink, gt_iadd, gt_isub, gt_iaload, gt_goto, Option.toList, List.cons_append, List.nil_append, Nat.add_zero, ka0_0, ra0_0_0, ka0_1, la0_1]
    refine ⟨fun c_10 => ?_, fun c_10 => ?_⟩
    · replace h := gw_ifp h c_10
      refine hK _ _ _ _ _ _ _ ?_
      rw [fdX11_is_205]
      simp only [gt_nil, true_and, eq_self, gt_iconst, bkX11_is_205, ka0_0, ra0_0_0, ka0_1, la0_1]
      refine hK _ _ _ _ _ _ _ ?_
      rw [fdX11_is_206]
      simp only [gt_nil, true_and, eq_self, gt_iret, gt_retz, bkX11_is_206, ka0_0, ra0_0_0, ka0_1, la0_1]
      cases h
      exact ⟨Nat.le_refl _, Nat.le_refl _, hq⟩
    · replace h := gw_ifn h c_10
      obtain ⟨c_11, h⟩ := gw_ife h
      refine ⟨c_11, ?_⟩
      refine hK _ _ _ _ _ _ _ ?_
      rw [fdX11_is_206]
      simp only [gt_nil, true_and, eq_self, gt_iret, gt_retz, bkX11_is_206, ka0_0, ra0_0_0, ka0_1, la0_1]
      cases h
      exact ⟨Nat.le_refl _, Nat.le_refl _, hq⟩
  · replace h := gw_ifn h c_5
    obtain ⟨c_12, h⟩ := gw_ife h
    refine ⟨c_12, ?_⟩
    refine hK _ _ _ _ _ _ _ ?_
    rw [fdX11_is_206]
    simp only [gt_nil, true_and, eq_self, gt_iret, gt_retz, bkX11_is_206, ka0_0, ra0_0_0, ka0_1, la0_1]
    cases h
    exact ⟨Nat.le_refl _, Nat.le_refl _, hq⟩
theorem ok_X11_is {l : Launch} {x : gw_C} {d : Nat} {S : gw_S} {Q : Option Value → gw_S → gw_M → Prop} {v1 : Int32} {a0 : Nat} {n0 : Nat} {μ : gw_M} {r μ'} (hS0 : gw_sh S 11 a0) (h : F_X11_is n0 a0 v1 μ = some (r, μ')) (hq : Q (some (.int r)) S μ') : gw_ok l x (d + 5) sgX11_is 0 0 [.ref a0, .int v1] S μ Q := by
  refine gw_ok_of stX11_is (lv0 := [.ref a0, .int v1]) (Nat.le_of_ble_eq_true rfl) rfl rfl ?_
  intro K hK
  have ka0_0 : gw_kd S a0 = 11 := (hS0 0 _ rfl).1
  have ra0_0_0 : gw_rf S a0 0 = a0 + 1 := (hS0 0 _ rfl).2.2 (0, 1) (by decide)
  have ka0_1 : gw_kd S (a0 + 1) = 12 := (hS0 1 _ rfl).1
  have la0_1 : gw_ln S (a0 + 1) = 20813 := (hS0 1 _ rfl).2.1
  unfold F_X11_is at h
  refine hK _ _ _ _ _ _ _ ?_
  rw [fdX11_is_0]
  simp only [gt_nil, true_and, eq_self, gt_iload_n, gt_ink, gw_nth, gt_tsw, gw_sw, bkX11_is_0, ka0_0, ra0_0_0, ka0_1, la0_1, (show Int32.toNatClampNeg 15 = 15 from rfl), (show Int32.toNatClampNeg 2 = 2 from rfl), (show Int32.toNatClampNeg 23 = 23 from rfl), (show Int32.toNatClampNeg 3 = 3 from rfl), (show Int32.toNatClampNeg 4 = 4 from rfl)]
  refine ⟨fun c_1 => ?_, fun c_1 => ?_⟩
  · replace h := gw_ifp h c_1
    refine hK _ _ _ _ _ _ _ ?_
    rw [fdX11_is_88]
    simp only [gt_nil, true_and, eq_self, gt_aload_n, gt_rfk, gw_nth, gt_get_r, gt_get_i, gt_get_z, gt_iconst, gt_iaload, gt_iret, gt_retz, bkX11_is_88, ka0_0, ra0_0_0, ka0_1, la0_1, (show Int32.toNatClampNeg 15 = 15 from rfl), (show Int32.toNatClampNeg 2 = 2 from rfl), (show Int32.toNatClampNeg 23 = 23 from rfl), (show Int32.toNatClampNeg 3 = 3 from rfl), (show Int32.toNatClampNeg 4 = 4 from rfl)]
    refine ⟨(⟨by decide, by decide⟩ : gw_in 2 20813), ?_⟩
    cases h
    exact ⟨Nat.le_refl _, Nat.le_refl _, hq⟩
  replace h := gw_ifn h c_1
  refine ⟨fun c_2 => ?_, fun c_2 => ?_⟩
  · replace h := gw_ifp h c_2
    refine hK _ _ _ _ _ _ _ ?_
    rw [fdX11_is_95]
    simp only [gt_nil, true_and, eq_self, gt_aload_n, gt_rfk, gw_nth, gt_get_r, gt_get_i, gt_get_z, gt_iconst, gt_iaload, gt_iret, gt_retz, bkX11_is_95, ka0_0, ra0_0_0, ka0_1, la0_1, (show Int32.toNatClampNeg 15 = 15 from rfl), (show Int32.toNatClampNeg 2 = 2 from rfl), (show Int32.toNatClampNeg 23 = 23 from rfl), (show Int32.toNatClampNeg 3 = 3 from rfl), (show Int32.toNatClampNeg 4 = 4 from rfl)]
    refine ⟨(⟨by decide, by decide⟩ : gw_in 3 20813), ?_⟩
    cases h
    exact ⟨Nat.le_refl _, Nat.le_refl _, hq⟩
  replace h := gw_ifn h c_2
  refine ⟨fun c_3 => ?_, fun c_3 => ?_⟩
  · replace h := gw_ifp h c_3
    refine hK _ _ _ _ _ _ _ ?_
    rw [fdX11_is_102]
    simp only [gt_nil, true_and, eq_self, gt_aload_n, gt_rfk, gw_nth, gt_get_r, gt_get_i, gt_get_z, gt_iconst, gt_iaload, gt_iret, gt_retz, bkX11_is_102, ka0_0, ra0_0_0, ka0_1, la0_1, (show Int32.toNatClampNeg 15 = 15 from rfl), (show Int32.toNatClampNeg 2 = 2 from rfl), (show Int32.toNatClampNeg 23 = 23 from rfl), (show Int32.toNatClampNeg 3 = 3 from rfl), (show Int32.toNatClampNeg 4 = 4 from rfl)]
    refine ⟨(⟨by decide, by decide⟩ : gw_in 4 20813), ?_⟩
    cases h
    exact ⟨Nat.le_refl _, Nat.le_refl _, hq⟩
  replace h := gw_ifn h c_3
  refine ⟨fun c_4 => ?_, fun c_4 => ?_⟩
  · replace h := gw_ifp h c_4
    refine hK _ _ _ _ _ _ _ ?_
    rw [fdX11_is_109]
    simp only [gt_nil, true_and, eq_self, gt_aload_n, gt_rfk, gw_nth, gt_get_r, gt_get_i, gt_get_z, gt_bipush, gt_iaload, gt_iret, gt_retz, bkX11_is_109, ka0_0, ra0_0_0, ka0_1, la0_1, (show Int32.toNatClampNeg 15 = 15 from rfl), (show Int32.toNatClampNeg 2 = 2 from rfl), (show Int32.toNatClampNeg 23 = 23 from rfl), (show Int32.toNatClampNeg 3 = 3 from rfl), (show Int32.toNatClampNeg 4 = 4 from rfl)]
    refine ⟨(⟨by decide, by decide⟩ : gw_in 23 20813), ?_⟩
    cases h
    exact ⟨Nat.le_refl _, Nat.le_refl _, hq⟩
  replace h := gw_ifn h c_4
  refine ⟨fun c_5 => ?_, fun c_5 => ?_⟩
  · replace h := gw_ifp h c_5
    refine hK _ _ _ _ _ _ _ ?_
    rw [fdX11_is_117]
    simp only [gt_nil, true_and, eq_self, gt_aload_n, gt_rfk, gw_nth, gt_v0, gt_v1, gt_v2, gt_v3, gt_v4, gt_v5, gt_iret, gt_retz, bkX11_is_117, ka0_0, ra0_0_0, ka0_1, la0_1, (show Int32.toNatClampNeg 15 = 15 from rfl), (show Int32.toNatClampNeg 2 = 2 from rfl), (show Int32.toNatClampNeg 23 = 23 from rfl), (show Int32.toNatClampNeg 3 = 3 from rfl), (show Int32.toNatClampNeg 4 = 4 from rfl)]
    obtain ⟨⟨r_6, μ_7⟩, e_8, h⟩ := gw_bnd h
    refine ⟨rfl, 0, 0, Nat.le_refl _, Nat.le_refl _, ok_X11_freeFrames hS0 e_8 ?_⟩
    dsimp only at h
    simp only [gt_nil, true_and, eq_self, gt_iret, gt_retz, Option.toList, List.cons_append, List.nil_append, Nat.add_zero, ka0_0, ra0_0_0, ka0_1, la0_1, (show Int32.toNatClampNeg 15 = 15 from rfl), (show Int32.toNatClampNeg 2 = 2 from rfl), (show Int32.toNatClampNeg 23 = 23 from rfl), (show Int32.toNatClampNeg 3 = 3 from rfl), (show Int32.toNatClampNeg 4 = 4 from rfl)]
    cases h
    exact ⟨Nat.le_refl _, Nat.le_refl _, hq⟩
  replace h := gw_ifn h c_5
  refine ⟨fun c_10 => ?_, fun c_10 => ?_⟩
  · replace h := gw_ifp h c_10
    exact B_X11_is_156 hK hS0 h hq
  replace h := gw_ifn h c_10
  refine ⟨fun c_11 => ?_, fun c_11 => ?_⟩
  · replace h := gw_ifp h c_11
    exact B_X11_is_156 hK hS0 h hq
  replace h := gw_ifn h c_11
  refine ⟨fun c_12 => ?_, fun c_12 => ?_⟩
  · replace h := gw_ifp h c_12
    exact B_X11_is_156 hK hS0 h hq
  replace h := gw_ifn h c_12
  refine ⟨fun c_13 => ?_, fun c_13 => ?_⟩
  · replace h := gw_ifp h c_13
    exact B_X11_is_156 hK hS0 h hq
  replace h := gw_ifn h c_13
  refine ⟨fun c_14 => ?_, fun c_14 => ?_⟩
  · replace h := gw_ifp h c_14
    exact B_X11_is_156 hK hS0 h hq
  replace h := gw_ifn h c_14
  refine ⟨fun c_15 => ?_, fun c_15 => ?_⟩
  · replace h := gw_ifp h c_15
    exact B_X11_is_156 hK hS0 h hq
  replace h := gw_ifn h c_15
  refine ⟨fun c_16 => ?_, fun c_16 => ?_⟩
  · replace h := gw_ifp h c_16
    refine hK _ _ _ _ _ _ _ ?_
    rw [fdX11_is_122]
    simp only [gt_nil, true_and, eq_self, gt_aload_n, gt_rfk, gw_nth, gt_get_r, gt_get_i, gt_get_z, gt_iconst, gt_v0, gt_v1, gt_v2, gt_v3, gt_v4, gt_v5, gt_iadd, gt_iaload, gt_iret, gt_retz, bkX11_is_122, ka0_0, ra0_0_0, ka0_1, la0_1, (show Int32.toNatClampNeg 15 = 15 from rfl), (show Int32.toNatClampNeg 2 = 2 from rfl), (show Int32.toNatClampNeg 23 = 23 from rfl), (show Int32.toNatClampNeg 3 = 3 from rfl), (show Int32.toNatClampNeg 4 = 4 from rfl)]
    obtain ⟨⟨r_17, μ_18⟩, e_19, h⟩ := gw_bnd h
    refine ⟨rfl, 0, 0, Nat.le_refl _, Nat.le_refl _, ok_X11_guestAt hS0 e_19 ?_⟩
    dsimp only at h
    simp only [gt_nil, true_and, eq_self, gt_iconst, gt_iadd, gt_iaload, gt_iret, gt_retz, Option.toList, List.cons_append, List.nil_append, Nat.add_zero, ka0_0, ra0_0_0, ka0_1, la0_1, (show Int32.toNatClampNeg 15 = 15 from rfl), (show Int32.toNatClampNeg 2 = 2 from rfl), (show Int32.toNatClampNeg 23 = 23 from rfl), (show Int32.toNatClampNeg 3 = 3 from rfl), (show Int32.toNatClampNeg 4 = 4 from rfl)]
    obtain ⟨c_21, h⟩ := gw_ife h
    refine ⟨c_21, ?_⟩
    cases h
    exact ⟨Nat.le_refl _, Nat.le_refl _, hq⟩
  replace h := gw_ifn h c_16
  refine ⟨fun c_22 => ?_, fun c_22 => ?_⟩
  · replace h := gw_ifp h c_22
    refine hK _ _ _ _ _ _ _ ?_
    rw [fdX11_is_135]
    simp only [gt_nil, true_and, eq_self, gt_aload_n, gt_rfk, gw_nth, gt_get_r, gt_get_i, gt_get_z, gt_iconst, gt_v0, gt_v1, gt_v2, gt_v3, gt_v4, gt_v5, gt_iadd, gt_iaload, gt_iret, gt_retz, bkX11_is_135, ka0_0, ra0_0_0, ka0_1, la0_1, (show Int32.toNatClampNeg 15 = 15 from rfl), (show Int32.toNatClampNeg 2 = 2 from rfl), (show Int32.toNatClampNeg 23 = 23 from rfl), (show Int32.toNatClampNeg 3 = 3 from rfl), (show Int32.toNatClampNeg 4 = 4 from rfl)]
    obtain ⟨⟨r_23, μ_24⟩, e_25, h⟩ := gw_bnd h
    refine ⟨rfl, 0, 0, Nat.le_refl _, Nat.le_refl _, ok_X11_guestAt hS0 e_25 ?_⟩
    dsimp only at h
    simp only [gt_nil, true_and, eq_self, gt_iconst, gt_iadd, gt_iaload, gt_iret, gt_retz, Option.toList, List.cons_append, List.nil_append, Nat.add_zero, ka0_0, ra0_0_0, ka0_1, la0_1, (show Int32.toNatClampNeg 15 = 15 from rfl), (show Int32.toNatClampNeg 2 = 2 from rfl), (show Int32.toNatClampNeg 23 = 23 from rfl), (show Int32.toNatClampNeg 3 = 3 from rfl), (show Int32.toNatClampNeg 4 = 4 from rfl)]
    obtain ⟨c_27, h⟩ := gw_ife h
    refine ⟨c_27, ?_⟩
    cases h
    exact ⟨Nat.le_refl _, Nat.le_refl _, hq⟩
  replace h := gw_ifn h c_22
  refine ⟨fun c_28 => ?_, fun c_28 => ?_⟩
  · replace h := gw_ifp h c_28
    exact B_X11_is_156 hK hS0 h hq
  replace h := gw_ifn h c_28
  refine ⟨fun c_29 => ?_, fun c_29 => ?_⟩
  · replace h := gw_ifp h c_29
    exact B_X11_is_156 hK hS0 h hq
  replace h := gw_ifn h c_29
  refine ⟨fun c_30 => ?_, fun c_30 => ?_⟩
  · replace h := gw_ifp h c_30
    exact B_X11_is_156 hK hS0 h hq
  replace h := gw_ifn h c_30
  refine ⟨fun c_31 => ?_, fun c_31 => ?_⟩
  · replace h := gw_ifp h c_31
    exact B_X11_is_156 hK hS0 h hq
  replace h := gw_ifn h c_31
  refine ⟨fun c_32 => ?_, fun c_32 => ?_⟩
  · replace h := gw_ifp h c_32
    refine hK _ _ _ _ _ _ _ ?_
    rw [fdX11_is_148]
    simp only [gt_nil, true_and, eq_self, gt_aload_n, gt_rfk, gw_nth, gt_get_r, gt_get_i, gt_get_z, gt_bipush, gt_iaload, gt_iret, gt_retz, bkX11_is_148, ka0_0, ra0_0_0, ka0_1, la0_1, (show Int32.toNatClampNeg 15 = 15 from rfl), (show Int32.toNatClampNeg 2 = 2 from rfl), (show Int32.toNatClampNeg 23 = 23 from rfl), (show Int32.toNatClampNeg 3 = 3 from rfl), (show Int32.toNatClampNeg 4 = 4 from rfl)]
    refine ⟨(⟨by decide, by decide⟩ : gw_in 15 20813), ?_⟩
    cases h
    exact ⟨Nat.le_refl _, Nat.le_refl _, hq⟩
  replace h := gw_ifn h c_32
  exact B_X11_is_156 hK hS0 h hq
def F_X11_told (n0 : Nat) (a0 : Nat) (v1 : Int32) (v2 : Int32) (v3 : Int32) (μ : gw_M) : Option (Int32 × gw_M) := (F_X11_isIn n0 v1 0 3 μ).bind (fun (z_4 : Int32 × gw_M) => (if z_4.1 = 0 then some ((-1), z_4.2) else (F_X11_isPage n0 v2 z_4.2).bind (fun (z_9 : Int32 × gw_M) => (if z_9.1 = 0 then some ((-1), z_9.2) else (F_X11_isIn n0 v3 0 1 z_9.2).bind (fun (z_14 : Int32 × gw_M) => (if z_14.1 = 0 then some ((-1), z_14.2) else (F_X11_toOf n0 a0 v1 v2 z_14.2).bind (fun (z_19 : Int32 × gw_M) => (if ¬ z_19.1 = (-1) then (F_X11_entryAt n0 a0 v1 v2 z_19.2).bind (fun (z_24 : Int32 × gw_M) => (if 0 ≤ (z_24.1 + v3) ∧ (z_24.1 + v3).toNatClampNeg < 20813 then some ((z_24.2 (a0 + 1) (z_24.1 + v3).toNatClampNeg), z_24.2) else none)) else some ((-1), z_19.2)))))))))
theorem ok_X11_told {l : Launch} {x : gw_C} {d : Nat} {S : gw_S} {Q : Option Value → gw_S → gw_M → Prop} {v1 v2 v3 : Int32} {a0 : Nat} {n0 : Nat} {μ : gw_M} {r μ'} (hS0 : gw_sh S 11 a0) (h : F_X11_told n0 a0 v1 v2 v3 μ = some (r, μ')) (hq : Q (some (.int r)) S μ') : gw_ok l x (d + 4) sgX11_told 0 0 [.ref a0, .int v1, .int v2, .int v3] S μ Q := by
  refine gw_ok_of stX11_told (lv0 := [.ref a0, .int v1, .int v2, .int v3]) (Nat.le_of_ble_eq_true rfl) rfl rfl ?_
  intro K hK
  have ka0_0 : gw_kd S a0 = 11 := (hS0 0 _ rfl).1
  have ra0_0_0 : gw_rf S a0 0 = a0 + 1 := (hS0 0 _ rfl).2.2 (0, 1) (by decide)
  have ka0_1 : gw_kd S (a0 + 1) = 12 := (hS0 1 _ rfl).1
  have la0_1 : gw_ln S (a0 + 1) = 20813 := (hS0 1 _ rfl).2.1
  unfold F_X11_told at h
  refine hK _ _ _ _ _ _ _ ?_
  rw [fdX11_told_0]
  simp only [gt_nil, true_and, eq_self, gt_iload_n, gt_ink, gw_nth, gt_iconst, gt_s1_0, gt_s2_0, gt_s3_0, gt_s4_0, gt_s1_1, gt_s2_1, gt_s3_1, gt_s4_1, gt_acpy, gt_if, gt_aload_n, gt_rfk, gt_v0, gt_v1, gt_v2, gt_v3, gt_v4, gt_v5, gt_icmp, bkX11_told_0, ka0_0, ra0_0_0, ka0_1, la0_1]
  obtain ⟨⟨r_1, μ_2⟩, e_3, h⟩ := gw_bnd h
  refine ⟨rfl, 0, 0, Nat.le_refl _, Nat.le_refl _, ok_X11_isIn e_3 ?_⟩
  intro hbr_1
  dsimp only at h
  simp only [gt_nil, true_and, eq_self, gt_if, gt_iload_n, gt_ink, gw_nth, gt_s1_0, gt_s2_0, gt_s3_0, gt_s4_0, gt_s1_1, gt_s2_1, gt_s3_1, gt_s4_1, gt_acpy, gt_iconst, gt_aload_n, gt_rfk, gt_v0, gt_v1, gt_v2, gt_v3, gt_v4, gt_v5, gt_icmp, Option.toList, List.cons_append, List.nil_append, Nat.add_zero, ka0_0, ra0_0_0, ka0_1, la0_1]
  refine ⟨fun c_5 => ?_, fun c_5 => ?_⟩
  · replace h := gw_ifp h c_5
    refine hK _ _ _ _ _ _ _ ?_
    rw [fdX11_told_35]
    simp only [gt_nil, true_and, eq_self, gt_iconst, gt_iret, gt_retz, bkX11_told_35, ka0_0, ra0_0_0, ka0_1, la0_1]
    cases h
    exact ⟨Nat.le_refl _, Nat.le_refl _, hq⟩
  · replace h := gw_ifn h c_5
    obtain ⟨⟨r_6, μ_7⟩, e_8, h⟩ := gw_bnd h
    refine ⟨rfl, 0, 0, Nat.le_refl _, Nat.le_refl _, ok_X11_isPage e_8 ?_⟩
    intro hbr_6
    dsimp only at h
    simp only [gt_nil, true_and, eq_self, gt_if, gt_iload_n, gt_ink, gw_nth, gt_iconst, gt_s1_0, gt_s2_0, gt_s3_0, gt_s4_0, gt_s1_1, gt_s2_1, gt_s3_1, gt_s4_1, gt_acpy, gt_aload_n, gt_rfk, gt_v0, gt_v1, gt_v2, gt_v3, gt_v4, gt_v5, gt_icmp, Option.toList, List.cons_append, List.nil_append, Nat.add_zero, ka0_0, ra0_0_0, ka0_1, la0_1]
    refine ⟨fun c_10 => ?_, fun c_10 => ?_⟩
    · replace h := gw_ifp h c_10
      refine hK _ _ _ _ _ _ _ ?_
      rw [fdX11_told_35]
      simp only [gt_nil, true_and, eq_self, gt_iconst, gt_iret, gt_retz, bkX11_told_35, ka0_0, ra0_0_0, ka0_1, la0_1]
      cases h
      exact ⟨Nat.le_refl _, Nat.le_refl _, hq⟩
    · replace h := gw_ifn h c_10
      obtain ⟨⟨r_11, μ_12⟩, e_13, h⟩ := gw_bnd h
      refine ⟨rfl, 0, 0, Nat.le_refl _, Nat.le_refl _, ok_X11_isIn e_13 ?_⟩
      intro hbr_11
      dsimp only at h
      simp only [gt_nil, true_and, eq_self, gt_if, gt_aload_n, gt_rfk, gw_nth, gt_iload_n, gt_ink, gt_v0, gt_v1, gt_v2, gt_v3, gt_v4, gt_v5, gt_iconst, gt_icmp, Option.toList, List.cons_append, List.nil_append, Nat.add_zero, ka0_0, ra0_0_0, ka0_1, la0_1]
      refine ⟨fun c_15 => ?_, fun c_15 => ?_⟩
      · replace h := gw_ifp h c_15
        refine hK _ _ _ _ _ _ _ ?_
        rw [fdX11_told_35]
        simp only [gt_nil, true_and, eq_self, gt_iconst, gt_iret, gt_retz, bkX11_told_35, ka0_0, ra0_0_0, ka0_1, la0_1]
        cases h
        exact ⟨Nat.le_refl _, Nat.le_refl _, hq⟩
      · replace h := gw_ifn h c_15
        obtain ⟨⟨r_16, μ_17⟩, e_18, h⟩ := gw_bnd h
        refine ⟨rfl, 0, 0, Nat.le_refl _, Nat.le_refl _, ok_X11_toOf hS0 e_18 ?_⟩
        dsimp only at h
        simp only [gt_nil, true_and, eq_self, gt_iconst, gt_icmp, Option.toList, List.cons_append, List.nil_append, Nat.add_zero, ka0_0, ra0_0_0, ka0_1, la0_1]
        refine ⟨fun c_20 => ?_, fun c_20 => ?_⟩
        · replace h := gw_ifp h c_20
          refine hK _ _ _ _ _ _ _ ?_
          rw [fdX11_told_37]
          simp only [gt_nil, true_and, eq_self, gt_aload_n, gt_rfk, gw_nth, gt_get_r, gt_get_i, gt_get_z, gt_iload_n, gt_ink, gt_v0, gt_v1, gt_v2, gt_v3, gt_v4, gt_v5, gt_iadd, gt_iaload, gt_iret, gt_retz, bkX11_told_37, ka0_0, ra0_0_0, ka0_1, la0_1]
          obtain ⟨⟨r_21, μ_22⟩, e_23, h⟩ := gw_bnd h
          refine ⟨rfl, 0, 0, Nat.le_refl _, Nat.le_refl _, ok_X11_entryAt hS0 e_23 ?_⟩
          dsimp only at h
          simp only [gt_nil, true_and, eq_self, gt_iload_n, gt_ink, gw_nth, gt_iadd, gt_iaload, gt_iret, gt_retz, Option.toList, List.cons_append, List.nil_append, Nat.add_zero, ka0_0, ra0_0_0, ka0_1, la0_1]
          obtain ⟨c_25, h⟩ := gw_ife h
          refine ⟨c_25, ?_⟩
          cases h
          exact ⟨Nat.le_refl _, Nat.le_refl _, hq⟩
        · replace h := gw_ifn h c_20
          refine hK _ _ _ _ _ _ _ ?_
          rw [fdX11_told_35]
          simp only [gt_nil, true_and, eq_self, gt_iconst, gt_iret, gt_retz, bkX11_told_35, ka0_0, ra0_0_0, ka0_1, la0_1]
          cases h
          exact ⟨Nat.le_refl _, Nat.le_refl _, hq⟩
def F_X11_folded (n0 : Nat) (a0 : Nat) (v1 : Int32) (μ : gw_M) : Option (Int32 × gw_M) := (F_X11_isIn n0 v1 0 ((μ (a0 + 1) 23) - (1 : Int32)) μ).bind (fun (z_4 : Int32 × gw_M) => (if z_4.1 = 0 then some ((-1), z_4.2) else (if 0 ≤ ((786 : Int32) + v1) ∧ ((786 : Int32) + v1).toNatClampNeg < 20813 then some ((z_4.2 (a0 + 1) ((786 : Int32) + v1).toNatClampNeg), z_4.2) else none)))
theorem ok_X11_folded {l : Launch} {x : gw_C} {d : Nat} {S : gw_S} {Q : Option Value → gw_S → gw_M → Prop} {v1 : Int32} {a0 : Nat} {n0 : Nat} {μ : gw_M} {r μ'} (hS0 : gw_sh S 11 a0) (h : F_X11_folded n0 a0 v1 μ = some (r, μ')) (hq : Q (some (.int r)) S μ') : gw_ok l x (d + 2) sgX11_folded 0 0 [.ref a0, .int v1] S μ Q := by
  refine gw_ok_of stX11_folded (lv0 := [.ref a0, .int v1]) (Nat.le_of_ble_eq_true rfl) rfl rfl ?_
  intro K hK
  have ka0_0 : gw_kd S a0 = 11 := (hS0 0 _ rfl).1
  have ra0_0_0 : gw_rf S a0 0 = a0 + 1 := (hS0 0 _ rfl).2.2 (0, 1) (by decide)
  have ka0_1 : gw_kd S (a0 + 1) = 12 := (hS0 1 _ rfl).1
  have la0_1 : gw_ln S (a0 + 1) = 20813 := (hS0 1 _ rfl).2.1
  unfold F_X11_folded at h
  refine hK _ _ _ _ _ _ _ ?_
  rw [fdX11_folded_0]
  simp only [gt_nil, true_and, eq_self, gt_iload_n, gt_ink, gw_nth, gt_iconst, gt_aload_n, gt_rfk, gt_get_r, gt_get_i, gt_get_z, gt_bipush, gt_iaload, gt_isub, gt_s1_0, gt_s2_0, gt_s3_0, gt_s4_0, gt_s1_1, gt_s2_1, gt_s3_1, gt_s4_1, gt_acpy, gt_if, gt_sipush, gt_iadd, gt_goto, bkX11_folded_0, ka0_0, ra0_0_0, ka0_1, la0_1, (show Int32.toNatClampNeg 23 = 23 from rfl)]
  refine ⟨(⟨by decide, by decide⟩ : gw_in 23 20813), ?_⟩
  obtain ⟨⟨r_1, μ_2⟩, e_3, h⟩ := gw_bnd h
  refine ⟨rfl, 0, 0, Nat.le_refl _, Nat.le_refl _, ok_X11_isIn e_3 ?_⟩
  intro hbr_1
  dsimp only at h
  simp only [gt_nil, true_and, eq_self, gt_if, gt_aload_n, gt_rfk, gw_nth, gt_get_r, gt_get_i, gt_get_z, gt_sipush, gt_iload_n, gt_ink, gt_iadd, gt_iaload, gt_goto, Option.toList, List.cons_append, List.nil_append, Nat.add_zero, ka0_0, ra0_0_0, ka0_1, la0_1, (show Int32.toNatClampNeg 23 = 23 from rfl)]
  refine ⟨fun c_5 => ?_, fun c_5 => ?_⟩
  · replace h := gw_ifp h c_5
    refine hK _ _ _ _ _ _ _ ?_
    rw [fdX11_folded_30]
    simp only [gt_nil, true_and, eq_self, gt_iconst, bkX11_folded_30, ka0_0, ra0_0_0, ka0_1, la0_1, (show Int32.toNatClampNeg 23 = 23 from rfl)]
    refine hK _ _ _ _ _ _ _ ?_
    rw [fdX11_folded_31]
    simp only [gt_nil, true_and, eq_self, gt_iret, gt_retz, bkX11_folded_31, ka0_0, ra0_0_0, ka0_1, la0_1, (show Int32.toNatClampNeg 23 = 23 from rfl)]
    cases h
    exact ⟨Nat.le_refl _, Nat.le_refl _, hq⟩
  · replace h := gw_ifn h c_5
    obtain ⟨c_6, h⟩ := gw_ife h
    refine ⟨c_6, ?_⟩
    refine hK _ _ _ _ _ _ _ ?_
    rw [fdX11_folded_31]
    simp only [gt_nil, true_and, eq_self, gt_iret, gt_retz, bkX11_folded_31, ka0_0, ra0_0_0, ka0_1, la0_1, (show Int32.toNatClampNeg 23 = 23 from rfl)]
    cases h
    exact ⟨Nat.le_refl _, Nat.le_refl _, hq⟩
def F_X11_frame (n0 : Nat) (a0 : Nat) (v1 : Int32) (μ : gw_M) : Option (Int32 × gw_M) := (F_X11_isIn n0 v1 0 9 μ).bind (fun (z_4 : Int32 × gw_M) => (if z_4.1 = 0 then some ((-1), z_4.2) else (if 0 ≤ ((802 : Int32) + v1) ∧ ((802 : Int32) + v1).toNatClampNeg < 20813 then some ((z_4.2 (a0 + 1) ((802 : Int32) + v1).toNatClampNeg), z_4.2) else none)))
theorem ok_X11_frame {l : Launch} {x : gw_C} {d : Nat} {S : gw_S} {Q : Option Value → gw_S → gw_M → Prop} {v1 : Int32} {a0 : Nat} {n0 : Nat} {μ : gw_M} {r μ'} (hS0 : gw_sh S 11 a0) (h : F_X11_frame n0 a0 v1 μ = some (r, μ')) (hq : Q (some (.int r)) S μ') : gw_ok l x (d + 2) sgX11_frame 0 0 [.ref a0, .int v1] S μ Q := by
  refine gw_ok_of stX11_frame (lv0 := [.ref a0, .int v1]) (Nat.le_of_ble_eq_true rfl) rfl rfl ?_
  intro K hK
  have ka0_0 : gw_kd S a0 = 11 := (hS0 0 _ rfl).1
  have ra0_0_0 : gw_rf S a0 0 = a0 + 1 := (hS0 0 _ rfl).2.2 (0, 1) (by decide)
  have ka0_1 : gw_kd S (a0 + 1) = 12 := (hS0 1 _ rfl).1
  have la0_1 : gw_ln S (a0 + 1) = 20813 := (hS0 1 _ rfl).2.1
  unfold F_X11_frame at h
  refine hK _ _ _ _ _ _ _ ?_
  rw [fdX11_frame_0]
  simp only [gt_nil, true_and, eq_self, gt_iload_n, gt_ink, gw_nth, gt_iconst, gt_bipush, gt_s1_0, gt_s2_0, gt_s3_0, gt_s4_0, gt_s1_1, gt_s2_1, gt_s3_1, gt_s4_1, gt_acpy, gt_if, gt_aload_n, gt_rfk, gt_get_r, gt_get_i, gt_get_z, gt_sipush, gt_iadd, gt_iaload, gt_goto, bkX11_frame_0, ka0_0, ra0_0_0, ka0_1, la0_1]
  obtain ⟨⟨r_1, μ_2⟩, e_3, h⟩ := gw_bnd h
  refine ⟨rfl, 0, 0, Nat.le_refl _, Nat.le_refl _, ok_X11_isIn e_3 ?_⟩
  intro hbr_1
  dsimp only at h
  simp only [gt_nil, true_and, eq_self, gt_if, gt_aload_n, gt_rfk, gw_nth, gt_get_r, gt_get_i, gt_get_z, gt_sipush, gt_iload_n, gt_ink, gt_iadd, gt_iaload, gt_goto, Option.toList, List.cons_append, List.nil_append, Nat.add_zero, ka0_0, ra0_0_0, ka0_1, la0_1]
  refine ⟨fun c_5 => ?_, fun c_5 => ?_⟩
  · replace h := gw_ifp h c_5
    refine hK _ _ _ _ _ _ _ ?_
    rw [fdX11_frame_23]
    simp only [gt_nil, true_and, eq_self, gt_iconst, bkX11_frame_23, ka0_0, ra0_0_0, ka0_1, la0_1]
    refine hK _ _ _ _ _ _ _ ?_
    rw [fdX11_frame_24]
    simp only [gt_nil, true_and, eq_self, gt_iret, gt_retz, bkX11_frame_24, ka0_0, ra0_0_0, ka0_1, la0_1]
    cases h
    exact ⟨Nat.le_refl _, Nat.le_refl _, hq⟩
  · replace h := gw_ifn h c_5
    obtain ⟨c_6, h⟩ := gw_ife h
    refine ⟨c_6, ?_⟩
    refine hK _ _ _ _ _ _ _ ?_
    rw [fdX11_frame_24]
    simp only [gt_nil, true_and, eq_self, gt_iret, gt_retz, bkX11_frame_24, ka0_0, ra0_0_0, ka0_1, la0_1]
    cases h
    exact ⟨Nat.le_refl _, Nat.le_refl _, hq⟩
def F_X11_handled (n0 : Nat) (a0 : Nat) (v1 : Int32) (μ : gw_M) : Option (Int32 × gw_M) := (F_X11_isHandled n0 v1 μ).bind (fun (z_4 : Int32 × gw_M) => (if z_4.1 = 0 then some ((-1), z_4.2) else (if 0 ≤ ((828 : Int32) + v1) ∧ ((828 : Int32) + v1).toNatClampNeg < 20813 then some ((z_4.2 (a0 + 1) ((828 : Int32) + v1).toNatClampNeg), z_4.2) else none)))
theorem ok_X11_handled {l : Launch} {x : gw_C} {d : Nat} {S : gw_S} {Q : Option Value → gw_S → gw_M → Prop} {v1 : Int32} {a0 : Nat} {n0 : Nat} {μ : gw_M} {r μ'} (hS0 : gw_sh S 11 a0) (h : F_X11_handled n0 a0 v1 μ = some (r, μ')) (hq : Q (some (.int r)) S μ') : gw_ok l x (d + 2) sgX11_handled 0 0 [.ref a0, .int v1] S μ Q := by
  refine gw_ok_of stX11_handled (lv0 := [.ref a0, .int v1]) (Nat.le_of_ble_eq_true rfl) rfl rfl ?_
  intro K hK
  have ka0_0 : gw_kd S a0 = 11 := (hS0 0 _ rfl).1
  have ra0_0_0 : gw_rf S a0 0 = a0 + 1 := (hS0 0 _ rfl).2.2 (0, 1) (by decide)
  have ka0_1 : gw_kd S (a0 + 1) = 12 := (hS0 1 _ rfl).1
  have la0_1 : gw_ln S (a0 + 1) = 20813 := (hS0 1 _ rfl).2.1
  unfold F_X11_handled at h
  refine hK _ _ _ _ _ _ _ ?_
  rw [fdX11_handled_0]
  simp only [gt_nil, true_and, eq_self, gt_iload_n, gt_ink, gw_nth, gt_s1_0, gt_s2_0, gt_s3_0, gt_s4_0, gt_s1_1, gt_s2_1, gt_s3_1, gt_s4_1, gt_acpy, gt_if, gt_aload_n, gt_rfk, gt_get_r, gt_get_i, gt_get_z, gt_sipush, gt_iadd, gt_iaload, gt_goto, bkX11_handled_0, ka0_0, ra0_0_0, ka0_1, la0_1]
  obtain ⟨⟨r_1, μ_2⟩, e_3, h⟩ := gw_bnd h
  refine ⟨rfl, 0, 0, Nat.le_refl _, Nat.le_refl _, ok_X11_isHandled e_3 ?_⟩
  intro hbr_1
  dsimp only at h
  simp only [gt_nil, true_and, eq_self, gt_if, gt_aload_n, gt_rfk, gw_nth, gt_get_r, gt_get_i, gt_get_z, gt_sipush, gt_iload_n, gt_ink, gt_iadd, gt_iaload, gt_goto, Option.toList, List.cons_append, List.nil_append, Nat.add_zero, ka0_0, ra0_0_0, ka0_1, la0_1]
  refine ⟨fun c_5 => ?_, fun c_5 => ?_⟩
  · replace h := gw_ifp h c_5
    refine hK _ _ _ _ _ _ _ ?_
    rw [fdX11_handled_20]
    simp only [gt_nil, true_and, eq_self, gt_iconst, bkX11_handled_20, ka0_0, ra0_0_0, ka0_1, la0_1]
    refine hK _ _ _ _ _ _ _ ?_
    rw [fdX11_handled_21]
    simp only [gt_nil, true_and, eq_self, gt_iret, gt_retz, bkX11_handled_21, ka0_0, ra0_0_0, ka0_1, la0_1]
    cases h
    exact ⟨Nat.le_refl _, Nat.le_refl _, hq⟩
  · replace h := gw_ifn h c_5
    obtain ⟨c_6, h⟩ := gw_ife h
    refine ⟨c_6, ?_⟩
    refine hK _ _ _ _ _ _ _ ?_
    rw [fdX11_handled_21]
    simp only [gt_nil, true_and, eq_self, gt_iret, gt_retz, bkX11_handled_21, ka0_0, ra0_0_0, ka0_1, la0_1]
    cases h
    exact ⟨Nat.le_refl _, Nat.le_refl _, hq⟩
def F_X11_stored (n0 : Nat) (a0 : Nat) (v1 : Int32) (μ : gw_M) : Option (Int32 × gw_M) := (F_X11_isPage n0 v1 μ).bind (fun (z_4 : Int32 × gw_M) => (if z_4.1 = 0 then some ((-1), z_4.2) else (if 0 ≤ ((812 : Int32) + v1) ∧ ((812 : Int32) + v1).toNatClampNeg < 20813 then some ((z_4.2 (a0 + 1) ((812 : Int32) + v1).toNatClampNeg), z_4.2) else none)))
theorem ok_X11_stored {l : Launch} {x : gw_C} {d : Nat} {S : gw_S} {Q : Option Value → gw_S → gw_M → Prop} {v1 : Int32} {a0 : Nat} {n0 : Nat} {μ : gw_M} {r μ'} (hS0 : gw_sh S 11 a0) (h : F_X11_stored n0 a0 v1 μ = some (r, μ')) (hq : Q (some (.int r)) S μ') : gw_ok l x (d + 3) sgX11_stored 0 0 [.ref a0, .int v1] S μ Q := by
  refine gw_ok_of stX11_stored (lv0 := [.ref a0, .int v1]) (Nat.le_of_ble_eq_true rfl) rfl rfl ?_
  intro K hK
  have ka0_0 : gw_kd S a0 = 11 := (hS0 0 _ rfl).1
  have ra0_0_0 : gw_rf S a0 0 = a0 + 1 := (hS0 0 _ rfl).2.2 (0, 1) (by decide)
  have ka0_1 : gw_kd S (a0 + 1) = 12 := (hS0 1 _ rfl).1
  have la0_1 : gw_ln S (a0 + 1) = 20813 := (hS0 1 _ rfl).2.1
  unfold F_X11_stored at h
  refine hK _ _ _ _ _ _ _ ?_
  rw [fdX11_stored_0]
  simp only [gt_nil, true_and, eq_self, gt_iload_n, gt_ink, gw_nth, gt_s1_0, gt_s2_0, gt_s3_0, gt_s4_0, gt_s1_1, gt_s2_1, gt_s3_1, gt_s4_1, gt_acpy, gt_if, gt_aload_n, gt_rfk, gt_get_r, gt_get_i, gt_get_z, gt_sipush, gt_iadd, gt_iaload, gt_goto, bkX11_stored_0, ka0_0, ra0_0_0, ka0_1, la0_1]
  obtain ⟨⟨r_1, μ_2⟩, e_3, h⟩ := gw_bnd h
  refine ⟨rfl, 0, 0, Nat.le_refl _, Nat.le_refl _, ok_X11_isPage e_3 ?_⟩
  intro hbr_1
  dsimp only at h
  simp only [gt_nil, true_and, eq_self, gt_if, gt_aload_n, gt_rfk, gw_nth, gt_get_r, gt_get_i, gt_get_z, gt_sipush, gt_iload_n, gt_ink, gt_iadd, gt_iaload, gt_goto, Option.toList, List.cons_append, List.nil_append, Nat.add_zero, ka0_0, ra0_0_0, ka0_1, la0_1]
  refine ⟨fun c_5 => ?_, fun c_5 => ?_⟩
  · replace h := gw_ifp h c_5
    refine hK _ _ _ _ _ _ _ ?_
    rw [fdX11_stored_20]
    simp only [gt_nil, true_and, eq_self, gt_iconst, bkX11_stored_20, ka0_0, ra0_0_0, ka0_1, la0_1]
    refine hK _ _ _ _ _ _ _ ?_
    rw [fdX11_stored_21]
    simp only [gt_nil, true_and, eq_self, gt_iret, gt_retz, bkX11_stored_21, ka0_0, ra0_0_0, ka0_1, la0_1]
    cases h
    exact ⟨Nat.le_refl _, Nat.le_refl _, hq⟩
  · replace h := gw_ifn h c_5
    obtain ⟨c_6, h⟩ := gw_ife h
    refine ⟨c_6, ?_⟩
    refine hK _ _ _ _ _ _ _ ?_
    rw [fdX11_stored_21]
    simp only [gt_nil, true_and, eq_self, gt_iret, gt_retz, bkX11_stored_21, ka0_0, ra0_0_0, ka0_1, la0_1]
    cases h
    exact ⟨Nat.le_refl _, Nat.le_refl _, hq⟩
def F_X11_backed (n0 : Nat) (a0 : Nat) (v1 : Int32) (μ : gw_M) : Option (Int32 × gw_M) := (F_X11_isIn n0 v1 0 ((μ (a0 + 1) 22) - (1 : Int32)) μ).bind (fun (z_4 : Int32 × gw_M) => (if z_4.1 = 0 then some ((-1), z_4.2) else (if 0 ≤ ((738 : Int32) + v1) ∧ ((738 : Int32) + v1).toNatClampNeg < 20813 then some ((z_4.2 (a0 + 1) ((738 : Int32) + v1).toNatClampNeg), z_4.2) else none)))
theorem ok_X11_backed {l : Launch} {x : gw_C} {d : Nat} {S : gw_S} {Q : Option Value → gw_S → gw_M → Prop} {v1 : Int32} {a0 : Nat} {n0 : Nat} {μ : gw_M} {r μ'} (hS0 : gw_sh S 11 a0) (h : F_X11_backed n0 a0 v1 μ = some (r, μ')) (hq : Q (some (.int r)) S μ') : gw_ok l x (d + 2) sgX11_backed 0 0 [.ref a0, .int v1] S μ Q := by
  refine gw_ok_of stX11_backed (lv0 := [.ref a0, .int v1]) (Nat.le_of_ble_eq_true rfl) rfl rfl ?_
  intro K hK
  have ka0_0 : gw_kd S a0 = 11 := (hS0 0 _ rfl).1
  have ra0_0_0 : gw_rf S a0 0 = a0 + 1 := (hS0 0 _ rfl).2.2 (0, 1) (by decide)
  have ka0_1 : gw_kd S (a0 + 1) = 12 := (hS0 1 _ rfl).1
  have la0_1 : gw_ln S (a0 + 1) = 20813 := (hS0 1 _ rfl).2.1
  unfold F_X11_backed at h
  refine hK _ _ _ _ _ _ _ ?_
  rw [fdX11_backed_0]
  simp only [gt_nil, true_and, eq_self, gt_iload_n, gt_ink, gw_nth, gt_iconst, gt_aload_n, gt_rfk, gt_get_r, gt_get_i, gt_get_z, gt_bipush, gt_iaload, gt_isub, gt_s1_0, gt_s2_0, gt_s3_0, gt_s4_0, gt_s1_1, gt_s2_1, gt_s3_1, gt_s4_1, gt_acpy, gt_if, gt_sipush, gt_iadd, gt_goto, bkX11_backed_0, ka0_0, ra0_0_0, ka0_1, la0_1, (show Int32.toNatClampNeg 22 = 22 from rfl)]
  refine ⟨(⟨by decide, by decide⟩ : gw_in 22 20813), ?_⟩
  obtain ⟨⟨r_1, μ_2⟩, e_3, h⟩ := gw_bnd h
  refine ⟨rfl, 0, 0, Nat.le_refl _, Nat.le_refl _, ok_X11_isIn e_3 ?_⟩
  intro hbr_1
  dsimp only at h
  simp only [gt_nil, true_and, eq_self, gt_if, gt_aload_n, gt_rfk, gw_nth, gt_get_r, gt_get_i, gt_get_z, gt_sipush, gt_iload_n, gt_ink, gt_iadd, gt_iaload, gt_goto, Option.toList, List.cons_append, List.nil_append, Nat.add_zero, ka0_0, ra0_0_0, ka0_1, la0_1, (show Int32.toNatClampNeg 22 = 22 from rfl)]
  refine ⟨fun c_5 => ?_, fun c_5 => ?_⟩
  · replace h := gw_ifp h c_5
    refine hK _ _ _ _ _ _ _ ?_
    rw [fdX11_backed_30]
    simp only [gt_nil, true_and, eq_self, gt_iconst, bkX11_backed_30, ka0_0, ra0_0_0, ka0_1, la0_1, (show Int32.toNatClampNeg 22 = 22 from rfl)]
    refine hK _ _ _ _ _ _ _ ?_
    rw [fdX11_backed_31]
    simp only [gt_nil, true_and, eq_self, gt_iret, gt_retz, bkX11_backed_31, ka0_0, ra0_0_0, ka0_1, la0_1, (show Int32.toNatClampNeg 22 = 22 from rfl)]
    cases h
    exact ⟨Nat.le_refl _, Nat.le_refl _, hq⟩
  · replace h := gw_ifn h c_5
    obtain ⟨c_6, h⟩ := gw_ife h
    refine ⟨c_6, ?_⟩
    refine hK _ _ _ _ _ _ _ ?_
    rw [fdX11_backed_31]
    simp only [gt_nil, true_and, eq_self, gt_iret, gt_retz, bkX11_backed_31, ka0_0, ra0_0_0, ka0_1, la0_1, (show Int32.toNatClampNeg 22 = 22 from rfl)]
    cases h
    exact ⟨Nat.le_refl _, Nat.le_refl _, hq⟩
def F_X11_heard (n0 : Nat) (a0 : Nat) (v1 : Int32) (μ : gw_M) : Option (Int32 × gw_M) := (if ¬ v1 = (-1) then (F_X11_isIn n0 v1 0 ((μ (a0 + 1) 24) - (1 : Int32)) μ).bind (fun (z_5 : Int32 × gw_M) => (if z_5.1 = 0 then some ((-1), z_5.2) else (if 0 ≤ ((837 : Int32) + v1) ∧ ((837 : Int32) + v1).toNatClampNeg < 20813 then some ((z_5.2 (a0 + 1) ((837 : Int32) + v1).toNatClampNeg), z_5.2) else none))) else some ((μ (a0 + 1) 24), μ))
theorem ok_X11_heard {l : Launch} {x : gw_C} {d : Nat} {S : gw_S} {Q : Option Value → gw_S → gw_M → Prop} {v1 : Int32} {a0 : Nat} {n0 : Nat} {μ : gw_M} {r μ'} (hS0 : gw_sh S 11 a0) (h : F_X11_heard n0 a0 v1 μ = some (r, μ')) (hq : Q (some (.int r)) S μ') : gw_ok l x (d + 2) sgX11_heard 0 0 [.ref a0, .int v1] S μ Q := by
  refine gw_ok_of stX11_heard (lv0 := [.ref a0, .int v1]) (Nat.le_of_ble_eq_true rfl) rfl rfl ?_
  intro K hK
  have ka0_0 : gw_kd S a0 = 11 := (hS0 0 _ rfl).1
  have ra0_0_0 : gw_rf S a0 0 = a0 + 1 := (hS0 0 _ rfl).2.2 (0, 1) (by decide)
  have ka0_1 : gw_kd S (a0 + 1) = 12 := (hS0 1 _ rfl).1
  have la0_1 : gw_ln S (a0 + 1) = 20813 := (hS0 1 _ rfl).2.1
  unfold F_X11_heard at h
  refine hK _ _ _ _ _ _ _ ?_
  rw [fdX11_heard_0]
  simp only [gt_nil, true_and, eq_self, gt_iload_n, gt_ink, gw_nth, gt_iconst, gt_icmp, gt_aload_n, gt_rfk, gt_get_r, gt_get_i, gt_get_z, gt_bipush, gt_iaload, gt_goto, bkX11_heard_0, ka0_0, ra0_0_0, ka0_1, la0_1, (show Int32.toNatClampNeg 24 = 24 from rfl)]
  refine ⟨fun c_1 => ?_, fun c_1 => ?_⟩
  · replace h := gw_ifp h c_1
    refine hK _ _ _ _ _ _ _ ?_
    rw [fdX11_heard_15]
    simp only [gt_nil, true_and, eq_self, gt_iload_n, gt_ink, gw_nth, gt_iconst, gt_aload_n, gt_rfk, gt_get_r, gt_get_i, gt_get_z, gt_bipush, gt_iaload, gt_isub, gt_s1_0, gt_s2_0, gt_s3_0, gt_s4_0, gt_s1_1, gt_s2_1, gt_s3_1, gt_s4_1, gt_acpy, gt_if, gt_sipush, gt_iadd, gt_goto, bkX11_heard_15, ka0_0, ra0_0_0, ka0_1, la0_1, (show Int32.toNatClampNeg 24 = 24 from rfl)]
    refine ⟨(⟨by decide, by decide⟩ : gw_in 24 20813), ?_⟩
    obtain ⟨⟨r_2, μ_3⟩, e_4, h⟩ := gw_bnd h
    refine ⟨rfl, 0, 0, Nat.le_refl _, Nat.le_refl _, ok_X11_isIn e_4 ?_⟩
    intro hbr_2
    dsimp only at h
    simp only [gt_nil, true_and, eq_self, gt_if, gt_aload_n, gt_rfk, gw_nth, gt_get_r, gt_get_i, gt_get_z, gt_sipush, gt_iload_n, gt_ink, gt_iadd, gt_iaload, gt_goto, Option.toList, List.cons_append, List.nil_append, Nat.add_zero, ka0_0, ra0_0_0, ka0_1, la0_1, (show Int32.toNatClampNeg 24 = 24 from rfl)]
    refine ⟨fun c_6 => ?_, fun c_6 => ?_⟩
    · replace h := gw_ifp h c_6
      refine hK _ _ _ _ _ _ _ ?_
      rw [fdX11_heard_45]
      simp only [gt_nil, true_and, eq_self, gt_iconst, bkX11_heard_45, ka0_0, ra0_0_0, ka0_1, la0_1, (show Int32.toNatClampNeg 24 = 24 from rfl)]
      refine hK _ _ _ _ _ _ _ ?_
      rw [fdX11_heard_46]
      simp only [gt_nil, true_and, eq_self, gt_iret, gt_retz, bkX11_heard_46, ka0_0, ra0_0_0, ka0_1, la0_1, (show Int32.toNatClampNeg 24 = 24 from rfl)]
      cases h
      exact ⟨Nat.le_refl _, Nat.le_refl _, hq⟩
    · replace h := gw_ifn h c_6
      obtain ⟨c_7, h⟩ := gw_ife h
      refine ⟨c_7, ?_⟩
      refine hK _ _ _ _ _ _ _ ?_
      rw [fdX11_heard_46]
      simp only [gt_nil, true_and, eq_self, gt_iret, gt_retz, bkX11_heard_46, ka0_0, ra0_0_0, ka0_1, la0_1, (show Int32.toNatClampNeg 24 = 24 from rfl)]
      cases h
      exact ⟨Nat.le_refl _, Nat.le_refl _, hq⟩
  · replace h := gw_ifn h c_1
    refine ⟨(⟨by decide, by decide⟩ : gw_in 24 20813), ?_⟩
    refine hK _ _ _ _ _ _ _ ?_
    rw [fdX11_heard_46]
    simp only [gt_nil, true_and, eq_self, gt_iret, gt_retz, bkX11_heard_46, ka0_0, ra0_0_0, ka0_1, la0_1, (show Int32.toNatClampNeg 24 = 24 from rfl)]
    cases h
    exact ⟨Nat.le_refl _, Nat.le_refl _, hq⟩
def F_X11_changed (n0 : Nat) (a0 : Nat) (μ : gw_M) : Option (Int32 × gw_M) := some ((μ (a0 + 1) 21), μ)
theorem ok_X11_changed {l : Launch} {x : gw_C} {d : Nat} {S : gw_S} {Q : Option Value → gw_S → gw_M → Prop} {a0 : Nat} {n0 : Nat} {μ : gw_M} {r μ'} (hS0 : gw_sh S 11 a0) (h : F_X11_changed n0 a0 μ = some (r, μ')) (hq : Q (some (.int r)) S μ') : gw_ok l x (d + 1) sgX11_changed 0 0 [.ref a0] S μ Q := by
  refine gw_ok_of stX11_changed (lv0 := [.ref a0]) (Nat.le_of_ble_eq_true rfl) rfl rfl ?_
  intro K hK
  have ka0_0 : gw_kd S a0 = 11 := (hS0 0 _ rfl).1
  have ra0_0_0 : gw_rf S a0 0 = a0 + 1 := (hS0 0 _ rfl).2.2 (0, 1) (by decide)
  have ka0_1 : gw_kd S (a0 + 1) = 12 := (hS0 1 _ rfl).1
  have la0_1 : gw_ln S (a0 + 1) = 20813 := (hS0 1 _ rfl).2.1
  unfold F_X11_changed at h
  refine hK _ _ _ _ _ _ _ ?_
  rw [fdX11_changed_0]
  simp only [gt_nil, true_and, eq_self, gt_aload_n, gt_rfk, gw_nth, gt_get_r, gt_get_i, gt_get_z, gt_bipush, gt_iaload, gt_iret, gt_retz, bkX11_changed_0, ka0_0, ra0_0_0, ka0_1, la0_1, (show Int32.toNatClampNeg 21 = 21 from rfl)]
  refine ⟨(⟨by decide, by decide⟩ : gw_in 21 20813), ?_⟩
  cases h
  exact ⟨Nat.le_refl _, Nat.le_refl _, hq⟩
def F_X11_walk_23 (n0 : Nat) (a0 : Nat) : Nat → Int32 → Int32 → Int32 → gw_M → Option (Int32 × gw_M)
  | 0, _, _, _, _ => none
  | n + 1, v2, v3, v4, μ => (if 3 ≤ v4 then some (v3, μ) else (F_X11_gives n0 a0 v4 v3 v2 μ).bind (fun (z_5 : Int32 × gw_M) => (if ¬ z_5.1 = 0 then (F_X11_toOf n0 a0 v4 v3 z_5.2).bind (fun (z_10 : Int32 × gw_M) => gw_let (v4 + 1) (fun (w_11 : Int32) => F_X11_walk_23 n0 a0 n v2 z_10.1 w_11 z_10.2)) else some ((((-2) : Int32) - v4), z_5.2))))
def F_X11_walk (n0 : Nat) (a0 : Nat) (v1 : Int32) (v2 : Int32) (μ : gw_M) : Option (Int32 × gw_M) := (F_X11_isPage n0 v1 μ).bind (fun (z_4 : Int32 × gw_M) => (if z_4.1 = 0 then some ((-1), z_4.2) else (F_X11_isIn n0 v2 0 2 z_4.2).bind (fun (z_9 : Int32 × gw_M) => (if ¬ z_9.1 = 0 then F_X11_walk_23 n0 a0 n0 v2 v1 0 z_9.2 else some ((-1), z_9.2)))))
theorem B_X11_walk_23 {l : Launch} {x : gw_C} {d : Nat} {S : gw_S} {Q : Option Value → gw_S → gw_M → Prop} {K : Nat → gw_Kt} (hK : gw_cl l x (d + 4) bsX11_walk Q K) {a0 : Nat} (hS0 : gw_sh S 11 a0) {n0 : Nat} : ∀ {n : Nat} {v2 v3 v4} {u1 : Value} {μ : gw_M} {r μ'}, F_X11_walk_23 n0 a0 n v2 v3 v4 μ = some (r, μ') → Q (some (.int r)) S μ' → K 23 [.ref a0, u1, .int v2, .int v3, .int v4] [] S μ 0 0 := by
  have ka0_0 : gw_kd S a0 = 11 := (hS0 0 _ rfl).1
  intro n
  induction n with
  | zero => intro v2 v3 v4 u1 μ r μ' h hq; simp [F_X11_walk_23] at h
  | succ n ih =>
    intro v2 v3 v4 u1 μ r μ' h hq
    simp only [F_X11_walk_23] at h
    refine hK _ _ _ _ _ _ _ ?_
    rw [fdX11_walk_23]
    simp only [gt_nil, true_and, eq_self, gt_iload, gt_ink, gw_nth, gt_iconst, gt_icmp, gt_aload_n, gt_rfk, gt_iload_n, gt_v0, gt_v1, gt_v2, gt_v3, gt_v4, gt_v5, gt_if, gt_bipush, gt_isub, gt_iret, gt_retz, bkX11_walk_23, ka0_0]
    refine ⟨fun c_1 => ?_, fun c_1 => ?_⟩
    · replace h := gw_ifp h c_1
      refine hK _ _ _ _ _ _ _ ?_
      rw [fdX11_walk_60]
      simp only [gt_nil, true_and, eq_self, gt_iload_n, gt_ink, gw_nth, gt_iret, gt_retz, bkX11_walk_60, ka0_0]
      cases h
      exact ⟨Nat.le_refl _, Nat.le_refl _, hq⟩
    · replace h := gw_ifn h c_1
      obtain ⟨⟨r_2, μ_3⟩, e_4, h⟩ := gw_bnd h
      refine ⟨rfl, 0, 0, Nat.le_refl _, Nat.le_refl _, ok_X11_gives hS0 e_4 ?_⟩
      intro hbr_2
      dsimp only at h
      simp only [gt_nil, true_and, eq_self, gt_if, gt_bipush, gt_iload, gt_ink, gw_nth, gt_isub, gt_iret, gt_retz, Option.toList, List.cons_append, List.nil_append, Nat.add_zero, ka0_0]
      refine ⟨fun c_6 => ?_, fun c_6 => ?_⟩
      · replace h := gw_ifp h c_6
        refine hK _ _ _ _ _ _ _ ?_
        rw [fdX11_walk_46]
        simp only [gt_nil, true_and, eq_self, gt_aload_n, gt_rfk, gw_nth, gt_iload, gt_ink, gt_iload_n, gt_v0, gt_v1, gt_v2, gt_v3, gt_v4, gt_v5, gt_istore_n, gw_set, gt_iinc, gt_goto, bkX11_walk_46, ka0_0]
        obtain ⟨⟨r_7, μ_8⟩, e_9, h⟩ := gw_bnd h
        refine ⟨rfl, 0, 0, Nat.le_refl _, Nat.le_refl _, ok_X11_toOf hS0 e_9 ?_⟩
        dsimp only at h
        simp only [gt_nil, true_and, eq_self, gt_istore_n, gw_set, gt_iinc, gt_ink, gw_nth, gt_goto, Option.toList, List.cons_append, List.nil_append, Nat.add_zero, ka0_0]
        obtain ⟨w_11, hw_11, h⟩ := gw_lt h
        try rw [← hw_11]
        exact ih h hq
      · replace h := gw_ifn h c_6
        cases h
        exact ⟨Nat.le_refl _, Nat.le_refl _, hq⟩
theorem ok_X11_walk {l : Launch} {x : gw_C} {d : Nat} {S : gw_S} {Q : Option Value → gw_S → gw_M → Prop} {v1 v2 : Int32} {a0 : Nat} {n0 : Nat} {μ : gw_M} {r μ'} (hS0 : gw_sh S 11 a0) (h : F_X11_walk n0 a0 v1 v2 μ = some (r, μ')) (hq : Q (some (.int r)) S μ') : gw_ok l x (d + 5) sgX11_walk 0 0 [.ref a0, .int v1, .int v2] S μ Q := by
  refine gw_ok_of stX11_walk (lv0 := [.ref a0, .int v1, .int v2, .retAddr 0, .retAddr 0]) (Nat.le_of_ble_eq_true rfl) rfl rfl ?_
  intro K hK
  unfold F_X11_walk at h
  refine hK _ _ _ _ _ _ _ ?_
  rw [fdX11_walk_0]
  simp only [gt_nil, true_and, eq_self, gt_iload_n, gt_ink, gw_nth, gt_s1_0, gt_s2_0, gt_s3_0, gt_s4_0, gt_s1_1, gt_s2_1, gt_s3_1, gt_s4_1, gt_acpy, gt_if, gt_iconst, bkX11_walk_0]
  obtain ⟨⟨r_1, μ_2⟩, e_3, h⟩ := gw_bnd h
  refine ⟨rfl, 0, 0, Nat.le_refl _, Nat.le_refl _, ok_X11_isPage e_3 ?_⟩
  intro hbr_1
  dsimp only at h
  simp only [gt_nil, true_and, eq_self, gt_if, gt_iload_n, gt_ink, gw_nth, gt_iconst, gt_s1_0, gt_s2_0, gt_s3_0, gt_s4_0, gt_s1_1, gt_s2_1, gt_s3_1, gt_s4_1, gt_acpy, Option.toList, List.cons_append, List.nil_append, Nat.add_zero]
  refine ⟨fun c_5 => ?_, fun c_5 => ?_⟩
  · replace h := gw_ifp h c_5
    refine hK _ _ _ _ _ _ _ ?_
    rw [fdX11_walk_16]
    simp only [gt_nil, true_and, eq_self, gt_iconst, gt_iret, gt_retz, bkX11_walk_16]
    cases h
    exact ⟨Nat.le_refl _, Nat.le_refl _, hq⟩
  · replace h := gw_ifn h c_5
    obtain ⟨⟨r_6, μ_7⟩, e_8, h⟩ := gw_bnd h
    refine ⟨rfl, 0, 0, Nat.le_refl _, Nat.le_refl _, ok_X11_isIn e_8 ?_⟩
    intro hbr_6
    dsimp only at h
    simp only [gt_nil, true_and, eq_self, gt_if, Option.toList, List.cons_append, List.nil_append, Nat.add_zero]
    refine ⟨fun c_10 => ?_, fun c_10 => ?_⟩
    · replace h := gw_ifp h c_10
      refine hK _ _ _ _ _ _ _ ?_
      rw [fdX11_walk_18]
      simp only [gt_nil, true_and, eq_self, gt_iload_n, gt_ink, gw_nth, gt_istore_n, gw_set, gt_iconst, gt_istore, bkX11_walk_18]
      exact B_X11_walk_23 hK hS0 h hq
    · replace h := gw_ifn h c_10
      refine hK _ _ _ _ _ _ _ ?_
      rw [fdX11_walk_16]
      simp only [gt_nil, true_and, eq_self, gt_iconst, gt_iret, gt_retz, bkX11_walk_16]
      cases h
      exact ⟨Nat.le_refl _, Nat.le_refl _, hq⟩
def F_X11_given_52 (n0 : Nat) (a0 : Nat) (v2 : Int32) (v3 : Int32) (μ : gw_M) : Option (Int32 × gw_M) := (if ¬ v2 = (-1) then some (v3, μ) else some (0, μ))
def F_X11_given_17 (n0 : Nat) (a0 : Nat) : Nat → Int32 → Int32 → Int32 → gw_M → Option (Int32 × gw_M)
  | 0, _, _, _, _ => none
  | n + 1, v2, v3, v4, μ => (if 3 ≤ v4 then F_X11_given_52 n0 a0 v2 v3 μ else (if v2 = (-1) then F_X11_given_52 n0 a0 v2 v3 μ else (F_X11_rightsOf n0 a0 v4 v2 μ).bind (fun (z_6 : Int32 × gw_M) => gw_let ((v3 &&& z_6.1)) (fun (w_7 : Int32) => (F_X11_toOf n0 a0 v4 v2 z_6.2).bind (fun (z_11 : Int32 × gw_M) => gw_let (v4 + 1) (fun (w_12 : Int32) => F_X11_given_17 n0 a0 n z_11.1 w_7 w_12 z_11.2))))))
def F_X11_given (n0 : Nat) (a0 : Nat) (v1 : Int32) (μ : gw_M) : Option (Int32 × gw_M) := (F_X11_isPage n0 v1 μ).bind (fun (z_4 : Int32 × gw_M) => (if ¬ z_4.1 = 0 then F_X11_given_17 n0 a0 n0 v1 7 0 z_4.2 else some ((-1), z_4.2)))
theorem B_X11_given_52 {l : Launch} {x : gw_C} {d : Nat} {S : gw_S} {Q : Option Value → gw_S → gw_M → Prop} {K : Nat → gw_Kt} (hK : gw_cl l x (d + 3) bsX11_given Q K) {a0 : Nat} (hS0 : gw_sh S 11 a0) {n0 : Nat} {v2 v3} {u1 u4 : Value} {μ : gw_M} {r μ'} (h : F_X11_given_52 n0 a0 v2 v3 μ = some (r, μ')) (hq : Q (some (.int r)) S μ') : K 52 [.ref a0, u1, .int v2, .int v3, u4] [] S μ 0 0 := by
  unfold F_X11_given_52 at h
  refine hK _ _ _ _ _ _ _ ?_
  rw [fdX11_given_52]
  simp only [gt_nil, true_and, eq_self, gt_iload_n, gt_ink, gw_nth, gt_iconst, gt_icmp, gt_goto, bkX11_given_52]
  refine ⟨fun c_1 => ?_, fun c_1 => ?_⟩
  · replace h := gw_ifp h c_1
    refine hK _ _ _ _ _ _ _ ?_
    rw [fdX11_given_61]
    simp only [gt_nil, true_and, eq_self, gt_iload_n, gt_ink, gw_nth, bkX11_given_61]
    refine hK _ _ _ _ _ _ _ ?_
    rw [fdX11_given_62]
    simp only [gt_nil, true_and, eq_self, gt_iret, gt_retz, bkX11_given_62]
    cases h
    exact ⟨Nat.le_refl _, Nat.le_refl _, hq⟩
  · replace h := gw_ifn h c_1
    refine hK _ _ _ _ _ _ _ ?_
    rw [fdX11_given_62]
    simp only [gt_nil, true_and, eq_self, gt_iret, gt_retz, bkX11_given_62]
    cases h
    exact ⟨Nat.le_refl _, Nat.le_refl _, hq⟩
theorem B_X11_given_17 {l : Launch} {x : gw_C} {d : Nat} {S : gw_S} {Q : Option Value → gw_S → gw_M → Prop} {K : Nat → gw_Kt} (hK : gw_cl l x (d + 3) bsX11_given Q K) {a0 : Nat} (hS0 : gw_sh S 11 a0) {n0 : Nat} : ∀ {n : Nat} {v2 v3 v4} {u1 : Value} {μ : gw_M} {r μ'}, F_X11_given_17 n0 a0 n v2 v3 v4 μ = some (r, μ') → Q (some (.int r)) S μ' → K 17 [.ref a0, u1, .int v2, .int v3, .int v4] [] S μ 0 0 := by
  have ka0_0 : gw_kd S a0 = 11 := (hS0 0 _ rfl).1
  intro n
  induction n with
  | zero => intro v2 v3 v4 u1 μ r μ' h hq; simp [F_X11_given_17] at h
  | succ n ih =>
    intro v2 v3 v4 u1 μ r μ' h hq
    simp only [F_X11_given_17] at h
    refine hK _ _ _ _ _ _ _ ?_
    rw [fdX11_given_17]
    simp only [gt_nil, true_and, eq_self, gt_iload, gt_ink, gw_nth, gt_iconst, gt_icmp, gt_iload_n, gt_aload_n, gt_rfk, gt_v0, gt_v1, gt_v2, gt_v3, gt_v4, gt_v5, gt_iand, gt_istore_n, gw_set, gt_iinc, gt_goto, bkX11_given_17, ka0_0]
    refine ⟨fun c_1 => ?_, fun c_1 => ?_⟩
    · replace h := gw_ifp h c_1
      exact B_X11_given_52 hK hS0 h hq
    · replace h := gw_ifn h c_1
      refine ⟨fun c_2 => ?_, fun c_2 => ?_⟩
      · replace h := gw_ifp h c_2
        exact B_X11_given_52 hK hS0 h hq
      · replace h := gw_ifn h c_2
        obtain ⟨⟨r_3, μ_4⟩, e_5, h⟩ := gw_bnd h
        refine ⟨rfl, 0, 0, Nat.le_refl _, Nat.le_refl _, ok_X11_rightsOf hS0 e_5 ?_⟩
        dsimp only at h
        simp only [gt_nil, true_and, eq_self, gt_iand, gt_istore_n, gw_set, gt_aload_n, gt_rfk, gw_nth, gt_iload, gt_ink, gt_iload_n, gt_v0, gt_v1, gt_v2, gt_v3, gt_v4, gt_v5, gt_iinc, gt_goto, Option.toList, List.cons_append, List.nil_append, Nat.add_zero, ka0_0]
        obtain ⟨w_7, hw_7, h⟩ := gw_lt h
        try rw [← hw_7]
        obtain ⟨⟨r_8, μ_9⟩, e_10, h⟩ := gw_bnd h
        refine ⟨rfl, 0, 0, Nat.le_refl _, Nat.le_refl _, ok_X11_toOf hS0 e_10 ?_⟩
        dsimp only at h
        simp only [gt_nil, true_and, eq_self, gt_istore_n, gw_set, gt_iinc, gt_ink, gw_nth, gt_goto, Option.toList, List.cons_append, List.nil_append, Nat.add_zero, ka0_0]
        obtain ⟨w_12, hw_12, h⟩ := gw_lt h
        try rw [← hw_12]
        exact ih h hq
theorem ok_X11_given {l : Launch} {x : gw_C} {d : Nat} {S : gw_S} {Q : Option Value → gw_S → gw_M → Prop} {v1 : Int32} {a0 : Nat} {n0 : Nat} {μ : gw_M} {r μ'} (hS0 : gw_sh S 11 a0) (h : F_X11_given n0 a0 v1 μ = some (r, μ')) (hq : Q (some (.int r)) S μ') : gw_ok l x (d + 4) sgX11_given 0 0 [.ref a0, .int v1] S μ Q := by
  refine gw_ok_of stX11_given (lv0 := [.ref a0, .int v1, .retAddr 0, .retAddr 0, .retAddr 0]) (Nat.le_of_ble_eq_true rfl) rfl rfl ?_
  intro K hK
  unfold F_X11_given at h
  refine hK _ _ _ _ _ _ _ ?_
  rw [fdX11_given_0]
  simp only [gt_nil, true_and, eq_self, gt_iload_n, gt_ink, gw_nth, gt_s1_0, gt_s2_0, gt_s3_0, gt_s4_0, gt_s1_1, gt_s2_1, gt_s3_1, gt_s4_1, gt_acpy, gt_if, gt_iconst, gt_iret, gt_retz, bkX11_given_0]
  obtain ⟨⟨r_1, μ_2⟩, e_3, h⟩ := gw_bnd h
  refine ⟨rfl, 0, 0, Nat.le_refl _, Nat.le_refl _, ok_X11_isPage e_3 ?_⟩
  intro hbr_1
  dsimp only at h
  simp only [gt_nil, true_and, eq_self, gt_if, gt_iconst, gt_iret, gt_retz, Option.toList, List.cons_append, List.nil_append, Nat.add_zero]
  refine ⟨fun c_5 => ?_, fun c_5 => ?_⟩
  · replace h := gw_ifp h c_5
    refine hK _ _ _ _ _ _ _ ?_
    rw [fdX11_given_9]
    simp only [gt_nil, true_and, eq_self, gt_iload_n, gt_ink, gw_nth, gt_istore_n, gw_set, gt_bipush, gt_iconst, gt_istore, bkX11_given_9]
    exact B_X11_given_17 hK hS0 h hq
  · replace h := gw_ifn h c_5
    cases h
    exact ⟨Nat.le_refl _, Nat.le_refl _, hq⟩
def F_X11_lazy_26 (rec4 : Int32 → Int32 → gw_M → Option (Int32 × gw_M)) (n0 : Nat) (a0 : Nat) (v2 : Int32) (s0 : Int32) (s1 : Int32) (μ : gw_M) : Option (Int32 × gw_M) := gw_let ((s0 ||| s1)) (fun (w_1 : Int32) => gw_let (v2 + 1) (fun (w_2 : Int32) => rec4 w_1 w_2 μ))
def F_X11_lazy_4 (n0 : Nat) (a0 : Nat) : Nat → Int32 → Int32 → gw_M → Option (Int32 × gw_M)
  | 0, _, _, _ => none
  | n + 1, v1, v2, μ => (if 16 ≤ v2 then some (v1, μ) else (F_X11_isLazy n0 a0 v2 μ).bind (fun (z_5 : Int32 × gw_M) => (if z_5.1 = 0 then F_X11_lazy_26 (F_X11_lazy_4 n0 a0 n) n0 a0 v2 v1 0 z_5.2 else F_X11_lazy_26 (F_X11_lazy_4 n0 a0 n) n0 a0 v2 v1 ((1 : Int32) <<< (v2 &&& 31)) z_5.2)))
def F_X11_lazy (n0 : Nat) (a0 : Nat) (μ : gw_M) : Option (Int32 × gw_M) := F_X11_lazy_4 n0 a0 n0 0 0 μ
theorem B_X11_lazy_26 {l : Launch} {x : gw_C} {d : Nat} {S : gw_S} {Q : Option Value → gw_S → gw_M → Prop} {K : Nat → gw_Kt} (hK : gw_cl l x (d + 4) bsX11_lazy Q K) {a0 : Nat} (hS0 : gw_sh S 11 a0) {rec4 : Int32 → Int32 → gw_M → Option (Int32 × gw_M)} (hrec4 : ∀ {v1 v2} {μ : gw_M} {r μ'}, rec4 v1 v2 μ = some (r, μ') → Q (some (.int r)) S μ' → K 4 [.ref a0, .int v1, .int v2] [] S μ 0 0) {n0 : Nat} {v2 s0 s1} {u1 : Value} {μ : gw_M} {r μ'} (h : F_X11_lazy_26 rec4 n0 a0 v2 s0 s1 μ = some (r, μ')) (hq : Q (some (.int r)) S μ') : K 26 [.ref a0, u1, .int v2] [.int s1, .int s0] S μ 0 0 := by
  unfold F_X11_lazy_26 at h
  refine hK _ _ _ _ _ _ _ ?_
  rw [fdX11_lazy_26]
  simp only [gt_nil, true_and, eq_self, gt_ior, gt_istore_n, gw_set, gt_iinc, gt_ink, gw_nth, gt_goto, bkX11_lazy_26]
  obtain ⟨w_1, hw_1, h⟩ := gw_lt h
  try rw [← hw_1]
  obtain ⟨w_2, hw_2, h⟩ := gw_lt h
  try rw [← hw_2]
  exact hrec4 h hq
theorem B_X11_lazy_4 {l : Launch} {x : gw_C} {d : Nat} {S : gw_S} {Q : Option Value → gw_S → gw_M → Prop} {K : Nat → gw_Kt} (hK : gw_cl l x (d + 4) bsX11_lazy Q K) {a0 : Nat} (hS0 : gw_sh S 11 a0) {n0 : Nat} : ∀ {n : Nat} {v1 v2} {μ : gw_M} {r μ'}, F_X11_lazy_4 n0 a0 n v1 v2 μ = some (r, μ') → Q (some (.int r)) S μ' → K 4 [.ref a0, .int v1, .int v2] [] S μ 0 0 := by
  have ka0_0 : gw_kd S a0 = 11 := (hS0 0 _ rfl).1
  intro n
  induction n with
  | zero => intro v1 v2 μ r μ' h hq; simp [F_X11_lazy_4] at h
  | succ n ih =>
    intro v1 v2 μ r μ' h hq
    simp only [F_X11_lazy_4] at h
    refine hK _ _ _ _ _ _ _ ?_
    rw [fdX11_lazy_4]
    simp only [gt_nil, true_and, eq_self, gt_iload_n, gt_ink, gw_nth, gt_bipush, gt_icmp, gt_aload_n, gt_rfk, gt_v0, gt_v1, gt_v2, gt_v3, gt_v4, gt_v5, gt_if, gt_iconst, gt_ishl, gt_goto, bkX11_lazy_4, ka0_0]
    refine ⟨fun c_1 => ?_, fun c_1 => ?_⟩
    · replace h := gw_ifp h c_1
      refine hK _ _ _ _ _ _ _ ?_
      rw [fdX11_lazy_34]
      simp only [gt_nil, true_and, eq_self, gt_iload_n, gt_ink, gw_nth, gt_iret, gt_retz, bkX11_lazy_34, ka0_0]
      cases h
      exact ⟨Nat.le_refl _, Nat.le_refl _, hq⟩
    · replace h := gw_ifn h c_1
      obtain ⟨⟨r_2, μ_3⟩, e_4, h⟩ := gw_bnd h
      refine ⟨rfl, 0, 0, Nat.le_refl _, Nat.le_refl _, ok_X11_isLazy hS0 e_4 ?_⟩
      intro hbr_2
      dsimp only at h
      simp only [gt_nil, true_and, eq_self, gt_if, gt_iconst, gt_iload_n, gt_ink, gw_nth, gt_ishl, gt_goto, Option.toList, List.cons_append, List.nil_append, Nat.add_zero, ka0_0]
      refine ⟨fun c_6 => ?_, fun c_6 => ?_⟩
      · replace h := gw_ifp h c_6
        refine hK _ _ _ _ _ _ _ ?_
        rw [fdX11_lazy_25]
        simp only [gt_nil, true_and, eq_self, gt_iconst, bkX11_lazy_25, ka0_0]
        exact B_X11_lazy_26 hK hS0 ih h hq
      · replace h := gw_ifn h c_6
        exact B_X11_lazy_26 hK hS0 ih h hq
theorem ok_X11_lazy {l : Launch} {x : gw_C} {d : Nat} {S : gw_S} {Q : Option Value → gw_S → gw_M → Prop} {a0 : Nat} {n0 : Nat} {μ : gw_M} {r μ'} (hS0 : gw_sh S 11 a0) (h : F_X11_lazy n0 a0 μ = some (r, μ')) (hq : Q (some (.int r)) S μ') : gw_ok l x (d + 5) sgX11_lazy 0 0 [.ref a0] S μ Q := by
  refine gw_ok_of stX11_lazy (lv0 := [.ref a0, .retAddr 0, .retAddr 0]) (Nat.le_of_ble_eq_true rfl) rfl rfl ?_
  intro K hK
  unfold F_X11_lazy at h
  refine hK _ _ _ _ _ _ _ ?_
  rw [fdX11_lazy_0]
  simp only [gt_nil, true_and, eq_self, gt_iconst, gt_istore_n, gw_set, bkX11_lazy_0]
  exact B_X11_lazy_4 hK hS0 h hq
def F_X11_aliases_70 (rec16 : Int32 → Int32 → Int32 → gw_M → Option (Int32 × gw_M)) (n0 : Nat) (a0 : Nat) (v1 : Int32) (v3 : Int32) (s0 : Int32) (s1 : Int32) (μ : gw_M) : Option (Int32 × gw_M) := gw_let ((s0 ||| s1)) (fun (w_1 : Int32) => gw_let (v3 + 1) (fun (w_2 : Int32) => rec16 v1 w_1 w_2 μ))
def F_X11_aliases_56 (rec16 : Int32 → Int32 → Int32 → gw_M → Option (Int32 × gw_M)) (n0 : Nat) (a0 : Nat) (v1 : Int32) (v2 : Int32) (v3 : Int32) (v4 : Int32) (μ : gw_M) : Option (Int32 × gw_M) := (if ¬ v4 = v1 then F_X11_aliases_70 rec16 n0 a0 v1 v3 v2 0 μ else F_X11_aliases_70 rec16 n0 a0 v1 v3 v2 ((1 : Int32) <<< (v3 &&& 31)) μ)
def F_X11_aliases_28 (rec16 : Int32 → Int32 → Int32 → gw_M → Option (Int32 × gw_M)) (n0 : Nat) (a0 : Nat) : Nat → Int32 → Int32 → Int32 → Int32 → Int32 → gw_M → Option (Int32 × gw_M)
  | 0, _, _, _, _, _, _ => none
  | n + 1, v1, v2, v3, v4, v5, μ => (if 3 ≤ v5 then F_X11_aliases_56 rec16 n0 a0 v1 v2 v3 v4 μ else (if v4 = (-1) then F_X11_aliases_56 rec16 n0 a0 v1 v2 v3 v4 μ else (F_X11_toOf n0 a0 v5 v4 μ).bind (fun (z_6 : Int32 × gw_M) => gw_let (v5 + 1) (fun (w_7 : Int32) => F_X11_aliases_28 rec16 n0 a0 n v1 v2 v3 z_6.1 w_7 z_6.2))))
def F_X11_aliases_16 (n0 : Nat) (a0 : Nat) : Nat → Int32 → Int32 → Int32 → gw_M → Option (Int32 × gw_M)
  | 0, _, _, _, _ => none
  | n + 1, v1, v2, v3, μ => (if 16 ≤ v3 then some (v2, μ) else F_X11_aliases_28 (F_X11_aliases_16 n0 a0 n) n0 a0 n0 v1 v2 v3 v3 0 μ)
def F_X11_aliases (n0 : Nat) (a0 : Nat) (v1 : Int32) (μ : gw_M) : Option (Int32 × gw_M) := (F_X11_isIn n0 v1 0 9 μ).bind (fun (z_4 : Int32 × gw_M) => (if ¬ z_4.1 = 0 then F_X11_aliases_16 n0 a0 n0 v1 0 0 z_4.2 else some ((-1), z_4.2)))
theorem B_X11_aliases_70 {l : Launch} {x : gw_C} {d : Nat} {S : gw_S} {Q : Option Value → gw_S → gw_M → Prop} {K : Nat → gw_Kt} (hK : gw_cl l x (d + 3) bsX11_aliases Q K) {a0 : Nat} (hS0 : gw_sh S 11 a0) {rec16 : Int32 → Int32 → Int32 → gw_M → Option (Int32 × gw_M)} (hrec16 : ∀ {v1 v2 v3} {u4 u5 : Value} {μ : gw_M} {r μ'}, rec16 v1 v2 v3 μ = some (r, μ') → Q (some (.int r)) S μ' → K 16 [.ref a0, .int v1, .int v2, .int v3, u4, u5] [] S μ 0 0) {n0 : Nat} {v1 v3 s0 s1} {u2 u4 u5 : Value} {μ : gw_M} {r μ'} (h : F_X11_aliases_70 rec16 n0 a0 v1 v3 s0 s1 μ = some (r, μ')) (hq : Q (some (.int r)) S μ') : K 70 [.ref a0, .int v1, u2, .int v3, u4, u5] [.int s1, .int s0] S μ 0 0 := by
  unfold F_X11_aliases_70 at h
  refine hK _ _ _ _ _ _ _ ?_
  rw [fdX11_aliases_70]
  simp only [gt_nil, true_and, eq_self, gt_ior, gt_istore_n, gw_set, gt_iinc, gt_ink, gw_nth, gt_goto, bkX11_aliases_70]
  obtain ⟨w_1, hw_1, h⟩ := gw_lt h
  try rw [← hw_1]
  obtain ⟨w_2, hw_2, h⟩ := gw_lt h
  try rw [← hw_2]
  exact hrec16 h hq
theorem B_X11_aliases_56 {l : Launch} {x : gw_C} {d : Nat} {S : gw_S} {Q : Option Value → gw_S → gw_M → Prop} {K : Nat → gw_Kt} (hK : gw_cl l x (d + 3) bsX11_aliases Q K) {a0 : Nat} (hS0 : gw_sh S 11 a0) {rec16 : Int32 → Int32 → Int32 → gw_M → Option (Int32 × gw_M)} (hrec16 : ∀ {v1 v2 v3} {u4 u5 : Value} {μ : gw_M} {r μ'}, rec16 v1 v2 v3 μ = some (r, μ') → Q (some (.int r)) S μ' → K 16 [.ref a0, .int v1, .int v2, .int v3, u4, u5] [] S μ 0 0) {n0 : Nat} {v1 v2 v3 v4} {u5 : Value} {μ : gw_M} {r μ'} (h : F_X11_aliases_56 rec16 n0 a0 v1 v2 v3 v4 μ = some (r, μ')) (hq : Q (some (.int r)) S μ') : K 56 [.ref a0, .int v1, .int v2, .int v3, .int v4, u5] [] S μ 0 0 := by
  unfold F_X11_aliases_56 at h
  refine hK _ _ _ _ _ _ _ ?_
  rw [fdX11_aliases_56]
  simp only [gt_nil, true_and, eq_self, gt_iload_n, gt_ink, gw_nth, gt_iload, gt_icmp, gt_iconst, gt_ishl, gt_goto, bkX11_aliases_56]
  refine ⟨fun c_1 => ?_, fun c_1 => ?_⟩
  · replace h := gw_ifp h c_1
    refine hK _ _ _ _ _ _ _ ?_
    rw [fdX11_aliases_69]
    simp only [gt_nil, true_and, eq_self, gt_iconst, bkX11_aliases_69]
    exact B_X11_aliases_70 hK hS0 hrec16 h hq
  · replace h := gw_ifn h c_1
    exact B_X11_aliases_70 hK hS0 hrec16 h hq
theorem B_X11_aliases_28 {l : Launch} {x : gw_C} {d : Nat} {S : gw_S} {Q : Option Value → gw_S → gw_M → Prop} {K : Nat → gw_Kt} (hK : gw_cl l x (d + 3) bsX11_aliases Q K) {a0 : Nat} (hS0 : gw_sh S 11 a0) {rec16 : Int32 → Int32 → Int32 → gw_M → Option (Int32 × gw_M)} (hrec16 : ∀ {v1 v2 v3} {u4 u5 : Value} {μ : gw_M} {r μ'}, rec16 v1 v2 v3 μ = some (r, μ') → Q (some (.int r)) S μ' → K 16 [.ref a0, .int v1, .int v2, .int v3, u4, u5] [] S μ 0 0) {n0 : Nat} : ∀ {n : Nat} {v1 v2 v3 v4 v5} {μ : gw_M} {r μ'}, F_X11_aliases_28 rec16 n0 a0 n v1 v2 v3 v4 v5 μ = some (r, μ') → Q (some (.int r)) S μ' → K 28 [.ref a0, .int v1, .int v2, .int v3, .int v4, .int v5] [] S μ 0 0 := by
  have ka0_0 : gw_kd S a0 = 11 := (hS0 0 _ rfl).1
  intro n
  induction n with
  | zero => intro v1 v2 v3 v4 v5 μ r μ' h hq; simp [F_X11_aliases_28] at h
  | succ n ih =>
    intro v1 v2 v3 v4 v5 μ r μ' h hq
    simp only [F_X11_aliases_28] at h
    refine hK _ _ _ _ _ _ _ ?_
    rw [fdX11_aliases_28]
    simp only [gt_nil, true_and, eq_self, gt_iload, gt_ink, gw_nth, gt_iconst, gt_icmp, gt_aload_n, gt_rfk, gt_v0, gt_v1, gt_v2, gt_v3, gt_v4, gt_v5, gt_istore, gw_set, gt_iinc, gt_goto, bkX11_aliases_28, ka0_0]
    refine ⟨fun c_1 => ?_, fun c_1 => ?_⟩
    · replace h := gw_ifp h c_1
      exact B_X11_aliases_56 hK hS0 hrec16 h hq
    · replace h := gw_ifn h c_1
      refine ⟨fun c_2 => ?_, fun c_2 => ?_⟩
      · replace h := gw_ifp h c_2
        exact B_X11_aliases_56 hK hS0 hrec16 h hq
      · replace h := gw_ifn h c_2
        obtain ⟨⟨r_3, μ_4⟩, e_5, h⟩ := gw_bnd h
        refine ⟨rfl, 0, 0, Nat.le_refl _, Nat.le_refl _, ok_X11_toOf hS0 e_5 ?_⟩
        dsimp only at h
        simp only [gt_nil, true_and, eq_self, gt_istore, gw_set, gt_iinc, gt_ink, gw_nth, gt_goto, Option.toList, List.cons_append, List.nil_append, Nat.add_zero, ka0_0]
        obtain ⟨w_7, hw_7, h⟩ := gw_lt h
        try rw [← hw_7]
        exact ih h hq
theorem B_X11_aliases_16 {l : Launch} {x : gw_C} {d : Nat} {S : gw_S} {Q : Option Value → gw_S → gw_M → Prop} {K : Nat → gw_Kt} (hK : gw_cl l x (d + 3) bsX11_aliases Q K) {a0 : Nat} (hS0 : gw_sh S 11 a0) {n0 : Nat} : ∀ {n : Nat} {v1 v2 v3} {u4 u5 : Value} {μ : gw_M} {r μ'}, F_X11_aliases_16 n0 a0 n v1 v2 v3 μ = some (r, μ') → Q (some (.int r)) S μ' → K 16 [.ref a0, .int v1, .int v2, .int v3, u4, u5] [] S μ 0 0 := by
  intro n
  induction n with
  | zero => intro v1 v2 v3 u4 u5 μ r μ' h hq; simp [F_X11_aliases_16] at h
  | succ n ih =>
    intro v1 v2 v3 u4 u5 μ r μ' h hq
    simp only [F_X11_aliases_16] at h
    refine hK _ _ _ _ _ _ _ ?_
    rw [fdX11_aliases_16]
    simp only [gt_nil, true_and, eq_self, gt_iload_n, gt_ink, gw_nth, gt_bipush, gt_icmp, gt_istore, gw_set, gt_iconst, bkX11_aliases_16]
    refine ⟨fun c_1 => ?_, fun c_1 => ?_⟩
    · replace h := gw_ifp h c_1
      refine hK _ _ _ _ _ _ _ ?_
      rw [fdX11_aliases_78]
      simp only [gt_nil, true_and, eq_self, gt_iload_n, gt_ink, gw_nth, gt_iret, gt_retz, bkX11_aliases_78]
      cases h
      exact ⟨Nat.le_refl _, Nat.le_refl _, hq⟩
    · replace h := gw_ifn h c_1
      exact B_X11_aliases_28 hK hS0 ih h hq
theorem ok_X11_aliases {l : Launch} {x : gw_C} {d : Nat} {S : gw_S} {Q : Option Value → gw_S → gw_M → Prop} {v1 : Int32} {a0 : Nat} {n0 : Nat} {μ : gw_M} {r μ'} (hS0 : gw_sh S 11 a0) (h : F_X11_aliases n0 a0 v1 μ = some (r, μ')) (hq : Q (some (.int r)) S μ') : gw_ok l x (d + 4) sgX11_aliases 0 0 [.ref a0, .int v1] S μ Q := by
  refine gw_ok_of stX11_aliases (lv0 := [.ref a0, .int v1, .retAddr 0, .retAddr 0, .retAddr 0, .retAddr 0]) (Nat.le_of_ble_eq_true rfl) rfl rfl ?_
  intro K hK
  unfold F_X11_aliases at h
  refine hK _ _ _ _ _ _ _ ?_
  rw [fdX11_aliases_0]
  simp only [gt_nil, true_and, eq_self, gt_iload_n, gt_ink, gw_nth, gt_iconst, gt_bipush, gt_s1_0, gt_s2_0, gt_s3_0, gt_s4_0, gt_s1_1, gt_s2_1, gt_s3_1, gt_s4_1, gt_acpy, gt_if, gt_iret, gt_retz, bkX11_aliases_0]
  obtain ⟨⟨r_1, μ_2⟩, e_3, h⟩ := gw_bnd h
  refine ⟨rfl, 0, 0, Nat.le_refl _, Nat.le_refl _, ok_X11_isIn e_3 ?_⟩
  intro hbr_1
  dsimp only at h
  simp only [gt_nil, true_and, eq_self, gt_if, gt_iconst, gt_iret, gt_retz, Option.toList, List.cons_append, List.nil_append, Nat.add_zero]
  refine ⟨fun c_5 => ?_, fun c_5 => ?_⟩
  · replace h := gw_ifp h c_5
    refine hK _ _ _ _ _ _ _ ?_
    rw [fdX11_aliases_12]
    simp only [gt_nil, true_and, eq_self, gt_iconst, gt_istore_n, gw_set, bkX11_aliases_12]
    exact B_X11_aliases_16 hK hS0 h hq
  · replace h := gw_ifn h c_5
    cases h
    exact ⟨Nat.le_refl _, Nat.le_refl _, hq⟩
def F_X11_free (n0 : Nat) (a0 : Nat) (μ : gw_M) : Option (Int32 × gw_M) := (F_X11_freeFrame n0 a0 μ).bind (fun (z_4 : Int32 × gw_M) => some (z_4.1, z_4.2))
theorem ok_X11_free {l : Launch} {x : gw_C} {d : Nat} {S : gw_S} {Q : Option Value → gw_S → gw_M → Prop} {a0 : Nat} {n0 : Nat} {μ : gw_M} {r μ'} (hS0 : gw_sh S 11 a0) (h : F_X11_free n0 a0 μ = some (r, μ')) (hq : Q (some (.int r)) S μ') : gw_ok l x (d + 5) sgX11_free 0 0 [.ref a0] S μ Q := by
  refine gw_ok_of stX11_free (lv0 := [.ref a0]) (Nat.le_of_ble_eq_true rfl) rfl rfl ?_
  intro K hK
  have ka0_0 : gw_kd S a0 = 11 := (hS0 0 _ rfl).1
  unfold F_X11_free at h
  refine hK _ _ _ _ _ _ _ ?_
  rw [fdX11_free_0]
  simp only [gt_nil, true_and, eq_self, gt_aload_n, gt_rfk, gw_nth, gt_v0, gt_v1, gt_v2, gt_v3, gt_v4, gt_v5, gt_iret, gt_retz, bkX11_free_0, ka0_0]
  obtain ⟨⟨r_1, μ_2⟩, e_3, h⟩ := gw_bnd h
  refine ⟨rfl, 0, 0, Nat.le_refl _, Nat.le_refl _, ok_X11_freeFrame hS0 e_3 ?_⟩
  dsimp only at h
  simp only [gt_nil, true_and, eq_self, gt_iret, gt_retz, Option.toList, List.cons_append, List.nil_append, Nat.add_zero, ka0_0]
  cases h
  exact ⟨Nat.le_refl _, Nat.le_refl _, hq⟩
def F_X11_wanted (n0 : Nat) (a0 : Nat) (v1 : Int32) (μ : gw_M) : Option (Int32 × gw_M) := (if ¬ v1 = 2 then (F_X11_isIn n0 v1 0 1 μ).bind (fun (z_5 : Int32 × gw_M) => (if z_5.1 = 0 then some ((-1), z_5.2) else (if 0 ≤ ((17 : Int32) + v1) ∧ ((17 : Int32) + v1).toNatClampNeg < 20813 then some ((z_5.2 (a0 + 1) ((17 : Int32) + v1).toNatClampNeg), z_5.2) else none))) else some (((μ (a0 + 1) 17) ||| (μ (a0 + 1) 18)), μ))
theorem ok_X11_wanted {l : Launch} {x : gw_C} {d : Nat} {S : gw_S} {Q : Option Value → gw_S → gw_M → Prop} {v1 : Int32} {a0 : Nat} {n0 : Nat} {μ : gw_M} {r μ'} (hS0 : gw_sh S 11 a0) (h : F_X11_wanted n0 a0 v1 μ = some (r, μ')) (hq : Q (some (.int r)) S μ') : gw_ok l x (d + 2) sgX11_wanted 0 0 [.ref a0, .int v1] S μ Q := by
  refine gw_ok_of stX11_wanted (lv0 := [.ref a0, .int v1]) (Nat.le_of_ble_eq_true rfl) rfl rfl ?_
  intro K hK
  have ka0_0 : gw_kd S a0 = 11 := (hS0 0 _ rfl).1
  have ra0_0_0 : gw_rf S a0 0 = a0 + 1 := (hS0 0 _ rfl).2.2 (0, 1) (by decide)
  have ka0_1 : gw_kd S (a0 + 1) = 12 := (hS0 1 _ rfl).1
  have la0_1 : gw_ln S (a0 + 1) = 20813 := (hS0 1 _ rfl).2.1
  unfold F_X11_wanted at h
  refine hK _ _ _ _ _ _ _ ?_
  rw [fdX11_wanted_0]
  simp only [gt_nil, true_and, eq_self, gt_iload_n, gt_ink, gw_nth, gt_iconst, gt_icmp, gt_aload_n, gt_rfk, gt_get_r, gt_get_i, gt_get_z, gt_bipush, gt_iaload, gt_ior, gt_goto, bkX11_wanted_0, ka0_0, ra0_0_0, ka0_1, la0_1, (show Int32.toNatClampNeg 17 = 17 from rfl), (show Int32.toNatClampNeg 18 = 18 from rfl)]
  refine ⟨fun c_1 => ?_, fun c_1 => ?_⟩
  · replace h := gw_ifp h c_1
    refine hK _ _ _ _ _ _ _ ?_
    rw [fdX11_wanted_23]
    simp only [gt_nil, true_and, eq_self, gt_iload_n, gt_ink, gw_nth, gt_iconst, gt_s1_0, gt_s2_0, gt_s3_0, gt_s4_0, gt_s1_1, gt_s2_1, gt_s3_1, gt_s4_1, gt_acpy, gt_if, gt_aload_n, gt_rfk, gt_get_r, gt_get_i, gt_get_z, gt_bipush, gt_iadd, gt_iaload, gt_goto, bkX11_wanted_23, ka0_0, ra0_0_0, ka0_1, la0_1, (show Int32.toNatClampNeg 17 = 17 from rfl), (show Int32.toNatClampNeg 18 = 18 from rfl)]
    obtain ⟨⟨r_2, μ_3⟩, e_4, h⟩ := gw_bnd h
    refine ⟨rfl, 0, 0, Nat.le_refl _, Nat.le_refl _, ok_X11_isIn e_4 ?_⟩
    intro hbr_2
    dsimp only at h
    simp only [gt_nil, true_and, eq_self, gt_if, gt_aload_n, gt_rfk, gw_nth, gt_get_r, gt_get_i, gt_get_z, gt_bipush, gt_iload_n, gt_ink, gt_iadd, gt_iaload, gt_goto, Option.toList, List.cons_append, List.nil_append, Nat.add_zero, ka0_0, ra0_0_0, ka0_1, la0_1, (show Int32.toNatClampNeg 17 = 17 from rfl), (show Int32.toNatClampNeg 18 = 18 from rfl)]
    refine ⟨fun c_6 => ?_, fun c_6 => ?_⟩
    · replace h := gw_ifp h c_6
      refine hK _ _ _ _ _ _ _ ?_
      rw [fdX11_wanted_44]
      simp only [gt_nil, true_and, eq_self, gt_iconst, bkX11_wanted_44, ka0_0, ra0_0_0, ka0_1, la0_1, (show Int32.toNatClampNeg 17 = 17 from rfl), (show Int32.toNatClampNeg 18 = 18 from rfl)]
      refine hK _ _ _ _ _ _ _ ?_
      rw [fdX11_wanted_45]
      simp only [gt_nil, true_and, eq_self, gt_iret, gt_retz, bkX11_wanted_45, ka0_0, ra0_0_0, ka0_1, la0_1, (show Int32.toNatClampNeg 17 = 17 from rfl), (show Int32.toNatClampNeg 18 = 18 from rfl)]
      cases h
      exact ⟨Nat.le_refl _, Nat.le_refl _, hq⟩
    · replace h := gw_ifn h c_6
      obtain ⟨c_7, h⟩ := gw_ife h
      refine ⟨c_7, ?_⟩
      refine hK _ _ _ _ _ _ _ ?_
      rw [fdX11_wanted_45]
      simp only [gt_nil, true_and, eq_self, gt_iret, gt_retz, bkX11_wanted_45, ka0_0, ra0_0_0, ka0_1, la0_1, (show Int32.toNatClampNeg 17 = 17 from rfl), (show Int32.toNatClampNeg 18 = 18 from rfl)]
      cases h
      exact ⟨Nat.le_refl _, Nat.le_refl _, hq⟩
  · replace h := gw_ifn h c_1
    refine ⟨(⟨by decide, by decide⟩ : gw_in 17 20813), ?_⟩
    refine ⟨(⟨by decide, by decide⟩ : gw_in 18 20813), ?_⟩
    refine hK _ _ _ _ _ _ _ ?_
    rw [fdX11_wanted_45]
    simp only [gt_nil, true_and, eq_self, gt_iret, gt_retz, bkX11_wanted_45, ka0_0, ra0_0_0, ka0_1, la0_1, (show Int32.toNatClampNeg 17 = 17 from rfl), (show Int32.toNatClampNeg 18 = 18 from rfl)]
    cases h
    exact ⟨Nat.le_refl _, Nat.le_refl _, hq⟩
def F_X11_whose (n0 : Nat) (a0 : Nat) (v1 : Int32) (μ : gw_M) : Option (Int32 × gw_M) := (F_X11_isIn n0 v1 0 7 μ).bind (fun (z_4 : Int32 × gw_M) => (if z_4.1 = 0 then some ((-1), z_4.2) else (F_X11_whoSees n0 a0 v1 z_4.2).bind (fun (z_9 : Int32 × gw_M) => some (z_9.1, z_9.2))))
theorem ok_X11_whose {l : Launch} {x : gw_C} {d : Nat} {S : gw_S} {Q : Option Value → gw_S → gw_M → Prop} {v1 : Int32} {a0 : Nat} {n0 : Nat} {μ : gw_M} {r μ'} (hS0 : gw_sh S 11 a0) (h : F_X11_whose n0 a0 v1 μ = some (r, μ')) (hq : Q (some (.int r)) S μ') : gw_ok l x (d + 3) sgX11_whose 0 0 [.ref a0, .int v1] S μ Q := by
  refine gw_ok_of stX11_whose (lv0 := [.ref a0, .int v1]) (Nat.le_of_ble_eq_true rfl) rfl rfl ?_
  intro K hK
  have ka0_0 : gw_kd S a0 = 11 := (hS0 0 _ rfl).1
  unfold F_X11_whose at h
  refine hK _ _ _ _ _ _ _ ?_
  rw [fdX11_whose_0]
  simp only [gt_nil, true_and, eq_self, gt_iload_n, gt_ink, gw_nth, gt_iconst, gt_bipush, gt_s1_0, gt_s2_0, gt_s3_0, gt_s4_0, gt_s1_1, gt_s2_1, gt_s3_1, gt_s4_1, gt_acpy, gt_if, gt_aload_n, gt_rfk, gt_v0, gt_v1, gt_v2, gt_v3, gt_v4, gt_v5, gt_goto, bkX11_whose_0, ka0_0]
  obtain ⟨⟨r_1, μ_2⟩, e_3, h⟩ := gw_bnd h
  refine ⟨rfl, 0, 0, Nat.le_refl _, Nat.le_refl _, ok_X11_isIn e_3 ?_⟩
  intro hbr_1
  dsimp only at h
  simp only [gt_nil, true_and, eq_self, gt_if, gt_aload_n, gt_rfk, gw_nth, gt_iload_n, gt_ink, gt_v0, gt_v1, gt_v2, gt_v3, gt_v4, gt_v5, gt_goto, Option.toList, List.cons_append, List.nil_append, Nat.add_zero, ka0_0]
  refine ⟨fun c_5 => ?_, fun c_5 => ?_⟩
  · replace h := gw_ifp h c_5
    refine hK _ _ _ _ _ _ _ ?_
    rw [fdX11_whose_18]
    simp only [gt_nil, true_and, eq_self, gt_iconst, bkX11_whose_18, ka0_0]
    refine hK _ _ _ _ _ _ _ ?_
    rw [fdX11_whose_19]
    simp only [gt_nil, true_and, eq_self, gt_iret, gt_retz, bkX11_whose_19, ka0_0]
    cases h
    exact ⟨Nat.le_refl _, Nat.le_refl _, hq⟩
  · replace h := gw_ifn h c_5
    obtain ⟨⟨r_6, μ_7⟩, e_8, h⟩ := gw_bnd h
    refine ⟨rfl, 0, 0, Nat.le_refl _, Nat.le_refl _, ok_X11_whoSees hS0 e_8 ?_⟩
    dsimp only at h
    simp only [gt_nil, true_and, eq_self, gt_goto, Option.toList, List.cons_append, List.nil_append, Nat.add_zero, ka0_0]
    refine hK _ _ _ _ _ _ _ ?_
    rw [fdX11_whose_19]
    simp only [gt_nil, true_and, eq_self, gt_iret, gt_retz, bkX11_whose_19, ka0_0]
    cases h
    exact ⟨Nat.le_refl _, Nat.le_refl _, hq⟩
def F_X11_exit_56 (n0 : Nat) (a0 : Nat) (μ : gw_M) : Option (Int32 × gw_M) := some ((-2), μ)
def F_X11_exit (n0 : Nat) (a0 : Nat) (v1 : Int32) (v2 : Int32) (μ : gw_M) : Option (Int32 × gw_M) := (if ¬ v1 = (-1) then (F_X11_isIn n0 v1 0 ((μ (a0 + 1) 25) - (1 : Int32)) μ).bind (fun (z_5 : Int32 × gw_M) => (if z_5.1 = 0 then F_X11_exit_56 n0 a0 z_5.2 else (F_X11_isIn n0 v2 0 3 z_5.2).bind (fun (z_10 : Int32 × gw_M) => (if z_10.1 = 0 then F_X11_exit_56 n0 a0 z_10.2 else (if 0 ≤ (((861 : Int32) + ((4 : Int32) * v1)) + v2) ∧ (((861 : Int32) + ((4 : Int32) * v1)) + v2).toNatClampNeg < 20813 then some ((z_10.2 (a0 + 1) (((861 : Int32) + ((4 : Int32) * v1)) + v2).toNatClampNeg), z_10.2) else none))))) else some ((μ (a0 + 1) 25), μ))
theorem B_X11_exit_56 {l : Launch} {x : gw_C} {d : Nat} {S : gw_S} {Q : Option Value → gw_S → gw_M → Prop} {K : Nat → gw_Kt} (hK : gw_cl l x (d + 1) bsX11_exit Q K) {a0 : Nat} (hS0 : gw_sh S 11 a0) {n0 : Nat}  {u1 u2 : Value} {μ : gw_M} {r μ'} (h : F_X11_exit_56 n0 a0 μ = some (r, μ')) (hq : Q (some (.int r)) S μ') : K 56 [.ref a0, u1, u2] [] S μ 0 0 := by
  unfold F_X11_exit_56 at h
  refine hK _ _ _ _ _ _ _ ?_
  rw [fdX11_exit_56]
  simp only [gt_nil, true_and, eq_self, gt_bipush, bkX11_exit_56]
  refine hK _ _ _ _ _ _ _ ?_
  rw [fdX11_exit_58]
  simp only [gt_nil, true_and, eq_self, gt_iret, gt_retz, bkX11_exit_58]
  cases h
  exact ⟨Nat.le_refl _, Nat.le_refl _, hq⟩
theorem ok_X11_exit {l : Launch} {x : gw_C} {d : Nat} {S : gw_S} {Q : Option Value → gw_S → gw_M → Prop} {v1 v2 : Int32} {a0 : Nat} {n0 : Nat} {μ : gw_M} {r μ'} (hS0 : gw_sh S 11 a0) (h : F_X11_exit n0 a0 v1 v2 μ = some (r, μ')) (hq : Q (some (.int r)) S μ') : gw_ok l x (d + 2) sgX11_exit 0 0 [.ref a0, .int v1, .int v2] S μ Q := by
  refine gw_ok_of stX11_exit (lv0 := [.ref a0, .int v1, .int v2]) (Nat.le_of_ble_eq_true rfl) rfl rfl ?_
  intro K hK
  have ka0_0 : gw_kd S a0 = 11 := (hS0 0 _ rfl).1
  have ra0_0_0 : gw_rf S a0 0 = a0 + 1 := (hS0 0 _ rfl).2.2 (0, 1) (by decide)
  have ka0_1 : gw_kd S (a0 + 1) = 12 := (hS0 1 _ rfl).1
  have la0_1 : gw_ln S (a0 + 1) = 20813 := (hS0 1 _ rfl).2.1
  unfold F_X11_exit at h
  refine hK _ _ _ _ _ _ _ ?_
  rw [fdX11_exit_0]
  simp only [gt_nil, true_and, eq_self, gt_iload_n, gt_ink, gw_nth, gt_iconst, gt_icmp, gt_aload_n, gt_rfk, gt_get_r, gt_get_i, gt_get_z, gt_bipush, gt_iaload, gt_iret, gt_retz, bkX11_exit_0, ka0_0, ra0_0_0, ka0_1, la0_1, (show Int32.toNatClampNeg 25 = 25 from rfl)]
  refine ⟨fun c_1 => ?_, fun c_1 => ?_⟩
  · replace h := gw_ifp h c_1
    refine hK _ _ _ _ _ _ _ ?_
    rw [fdX11_exit_13]
    simp only [gt_nil, true_and, eq_self, gt_iload_n, gt_ink, gw_nth, gt_iconst, gt_aload_n, gt_rfk, gt_get_r, gt_get_i, gt_get_z, gt_bipush, gt_iaload, gt_isub, gt_s1_0, gt_s2_0, gt_s3_0, gt_s4_0, gt_s1_1, gt_s2_1, gt_s3_1, gt_s4_1, gt_acpy, gt_if, gt_sipush, gt_imul, gt_iadd, gt_goto, bkX11_exit_13, ka0_0, ra0_0_0, ka0_1, la0_1, (show Int32.toNatClampNeg 25 = 25 from rfl)]
    refine ⟨(⟨by decide, by decide⟩ : gw_in 25 20813), ?_⟩
    obtain ⟨⟨r_2, μ_3⟩, e_4, h⟩ := gw_bnd h
    refine ⟨rfl, 0, 0, Nat.le_refl _, Nat.le_refl _, ok_X11_isIn e_4 ?_⟩
    intro hbr_2
    dsimp only at h
    simp only [gt_nil, true_and, eq_self, gt_if, gt_iload_n, gt_ink, gw_nth, gt_iconst, gt_s1_0, gt_s2_0, gt_s3_0, gt_s4_0, gt_s1_1, gt_s2_1, gt_s3_1, gt_s4_1, gt_acpy, gt_aload_n, gt_rfk, gt_get_r, gt_get_i, gt_get_z, gt_sipush, gt_imul, gt_iadd, gt_iaload, gt_goto, Option.toList, List.cons_append, List.nil_append, Nat.add_zero, ka0_0, ra0_0_0, ka0_1, la0_1, (show Int32.toNatClampNeg 25 = 25 from rfl)]
    refine ⟨fun c_6 => ?_, fun c_6 => ?_⟩
    · replace h := gw_ifp h c_6
      exact B_X11_exit_56 hK hS0 h hq
    · replace h := gw_ifn h c_6
      obtain ⟨⟨r_7, μ_8⟩, e_9, h⟩ := gw_bnd h
      refine ⟨rfl, 0, 0, Nat.le_refl _, Nat.le_refl _, ok_X11_isIn e_9 ?_⟩
      intro hbr_7
      dsimp only at h
      simp only [gt_nil, true_and, eq_self, gt_if, gt_aload_n, gt_rfk, gw_nth, gt_get_r, gt_get_i, gt_get_z, gt_sipush, gt_iconst, gt_iload_n, gt_ink, gt_imul, gt_iadd, gt_iaload, gt_goto, Option.toList, List.cons_append, List.nil_append, Nat.add_zero, ka0_0, ra0_0_0, ka0_1, la0_1, (show Int32.toNatClampNeg 25 = 25 from rfl)]
      refine ⟨fun c_11 => ?_, fun c_11 => ?_⟩
      · replace h := gw_ifp h c_11
        exact B_X11_exit_56 hK hS0 h hq
      · replace h := gw_ifn h c_11
        obtain ⟨c_12, h⟩ := gw_ife h
        refine ⟨c_12, ?_⟩
        refine hK _ _ _ _ _ _ _ ?_
        rw [fdX11_exit_58]
        simp only [gt_nil, true_and, eq_self, gt_iret, gt_retz, bkX11_exit_58, ka0_0, ra0_0_0, ka0_1, la0_1, (show Int32.toNatClampNeg 25 = 25 from rfl)]
        cases h
        exact ⟨Nat.le_refl _, Nat.le_refl _, hq⟩
  · replace h := gw_ifn h c_1
    refine ⟨(⟨by decide, by decide⟩ : gw_in 25 20813), ?_⟩
    cases h
    exact ⟨Nat.le_refl _, Nat.le_refl _, hq⟩
def F_X11_exits_39 (rec4 : Int32 → Int32 → Int32 → gw_M → Option (Int32 × gw_M)) (n0 : Nat) (a0 : Nat) (v1 : Int32) (v3 : Int32) (s0 : Int32) (s1 : Int32) (μ : gw_M) : Option (Int32 × gw_M) := gw_let ((s0 + s1)) (fun (w_1 : Int32) => gw_let (v3 + 1) (fun (w_2 : Int32) => rec4 v1 w_1 w_2 μ))
def F_X11_exits_4 (n0 : Nat) (a0 : Nat) : Nat → Int32 → Int32 → Int32 → gw_M → Option (Int32 × gw_M)
  | 0, _, _, _, _ => none
  | n + 1, v1, v2, v3, μ => (if (μ (a0 + 1) 25) ≤ v3 then some (v2, μ) else (if 0 ≤ (((861 : Int32) + ((4 : Int32) * v3)) + (1 : Int32)) ∧ (((861 : Int32) + ((4 : Int32) * v3)) + (1 : Int32)).toNatClampNeg < 20813 then (if ¬ (μ (a0 + 1) (((861 : Int32) + ((4 : Int32) * v3)) + (1 : Int32)).toNatClampNeg) = v1 then F_X11_exits_39 (F_X11_exits_4 n0 a0 n) n0 a0 v1 v3 v2 0 μ else F_X11_exits_39 (F_X11_exits_4 n0 a0 n) n0 a0 v1 v3 v2 1 μ) else none))
def F_X11_exits (n0 : Nat) (a0 : Nat) (v1 : Int32) (μ : gw_M) : Option (Int32 × gw_M) := F_X11_exits_4 n0 a0 n0 v1 0 0 μ
theorem B_X11_exits_39 {l : Launch} {x : gw_C} {d : Nat} {S : gw_S} {Q : Option Value → gw_S → gw_M → Prop} {K : Nat → gw_Kt} (hK : gw_cl l x (d + 0) bsX11_exits Q K) {a0 : Nat} (hS0 : gw_sh S 11 a0) {rec4 : Int32 → Int32 → Int32 → gw_M → Option (Int32 × gw_M)} (hrec4 : ∀ {v1 v2 v3} {μ : gw_M} {r μ'}, rec4 v1 v2 v3 μ = some (r, μ') → Q (some (.int r)) S μ' → K 4 [.ref a0, .int v1, .int v2, .int v3] [] S μ 0 0) {n0 : Nat} {v1 v3 s0 s1} {u2 : Value} {μ : gw_M} {r μ'} (h : F_X11_exits_39 rec4 n0 a0 v1 v3 s0 s1 μ = some (r, μ')) (hq : Q (some (.int r)) S μ') : K 39 [.ref a0, .int v1, u2, .int v3] [.int s1, .int s0] S μ 0 0 := by
  unfold F_X11_exits_39 at h
  refine hK _ _ _ _ _ _ _ ?_
  rw [fdX11_exits_39]
  simp only [gt_nil, true_and, eq_self, gt_iadd, gt_istore_n, gw_set, gt_iinc, gt_ink, gw_nth, gt_goto, bkX11_exits_39]
  obtain ⟨w_1, hw_1, h⟩ := gw_lt h
  try rw [← hw_1]
  obtain ⟨w_2, hw_2, h⟩ := gw_lt h
  try rw [← hw_2]
  exact hrec4 h hq
theorem B_X11_exits_4 {l : Launch} {x : gw_C} {d : Nat} {S : gw_S} {Q : Option Value → gw_S → gw_M → Prop} {K : Nat → gw_Kt} (hK : gw_cl l x (d + 0) bsX11_exits Q K) {a0 : Nat} (hS0 : gw_sh S 11 a0) {n0 : Nat} : ∀ {n : Nat} {v1 v2 v3} {μ : gw_M} {r μ'}, F_X11_exits_4 n0 a0 n v1 v2 v3 μ = some (r, μ') → Q (some (.int r)) S μ' → K 4 [.ref a0, .int v1, .int v2, .int v3] [] S μ 0 0 := by
  have ka0_0 : gw_kd S a0 = 11 := (hS0 0 _ rfl).1
  have ra0_0_0 : gw_rf S a0 0 = a0 + 1 := (hS0 0 _ rfl).2.2 (0, 1) (by decide)
  have ka0_1 : gw_kd S (a0 + 1) = 12 := (hS0 1 _ rfl).1
  have la0_1 : gw_ln S (a0 + 1) = 20813 := (hS0 1 _ rfl).2.1
  intro n
  induction n with
  | zero => intro v1 v2 v3 μ r μ' h hq; simp [F_X11_exits_4] at h
  | succ n ih =>
    intro v1 v2 v3 μ r μ' h hq
    simp only [F_X11_exits_4] at h
    refine hK _ _ _ _ _ _ _ ?_
    rw [fdX11_exits_4]
    simp only [gt_nil, true_and, eq_self, gt_iload_n, gt_ink, gw_nth, gt_aload_n, gt_rfk, gt_get_r, gt_get_i, gt_get_z, gt_bipush, gt_iaload, gt_icmp, gt_sipush, gt_iconst, gt_imul, gt_iadd, gt_goto, bkX11_exits_4, ka0_0, ra0_0_0, ka0_1, la0_1, (show Int32.toNatClampNeg 25 = 25 from rfl)]
    refine ⟨(⟨by decide, by decide⟩ : gw_in 25 20813), ?_⟩
    refine ⟨fun c_1 => ?_, fun c_1 => ?_⟩
    · replace h := gw_ifp h c_1
      refine hK _ _ _ _ _ _ _ ?_
      rw [fdX11_exits_47]
      simp only [gt_nil, true_and, eq_self, gt_iload_n, gt_ink, gw_nth, gt_iret, gt_retz, bkX11_exits_47, ka0_0, ra0_0_0, ka0_1, la0_1, (show Int32.toNatClampNeg 25 = 25 from rfl)]
      cases h
      exact ⟨Nat.le_refl _, Nat.le_refl _, hq⟩
    · replace h := gw_ifn h c_1
      obtain ⟨c_2, h⟩ := gw_ife h
      refine ⟨c_2, ?_⟩
      refine ⟨fun c_3 => ?_, fun c_3 => ?_⟩
      · replace h := gw_ifp h c_3
        refine hK _ _ _ _ _ _ _ ?_
        rw [fdX11_exits_38]
        simp only [gt_nil, true_and, eq_self, gt_iconst, bkX11_exits_38, ka0_0, ra0_0_0, ka0_1, la0_1, (show Int32.toNatClampNeg 25 = 25 from rfl)]
        exact B_X11_exits_39 hK hS0 ih h hq
      · replace h := gw_ifn h c_3
        exact B_X11_exits_39 hK hS0 ih h hq
theorem ok_X11_exits {l : Launch} {x : gw_C} {d : Nat} {S : gw_S} {Q : Option Value → gw_S → gw_M → Prop} {v1 : Int32} {a0 : Nat} {n0 : Nat} {μ : gw_M} {r μ'} (hS0 : gw_sh S 11 a0) (h : F_X11_exits n0 a0 v1 μ = some (r, μ')) (hq : Q (some (.int r)) S μ') : gw_ok l x (d + 1) sgX11_exits 0 0 [.ref a0, .int v1] S μ Q := by
  refine gw_ok_of stX11_exits (lv0 := [.ref a0, .int v1, .retAddr 0, .retAddr 0]) (Nat.le_of_ble_eq_true rfl) rfl rfl ?_
  intro K hK
  unfold F_X11_exits at h
  refine hK _ _ _ _ _ _ _ ?_
  rw [fdX11_exits_0]
  simp only [gt_nil, true_and, eq_self, gt_iconst, gt_istore_n, gw_set, bkX11_exits_0]
  exact B_X11_exits_4 hK hS0 h hq
def F_X11_spent (n0 : Nat) (a0 : Nat) (v1 : Int32) (μ : gw_M) : Option (Int32 × gw_M) := (F_X11_isIn n0 v1 0 3 μ).bind (fun (z_4 : Int32 × gw_M) => (if z_4.1 = 0 then some ((-1), z_4.2) else (if 0 ≤ ((28 : Int32) + v1) ∧ ((28 : Int32) + v1).toNatClampNeg < 20813 then some ((z_4.2 (a0 + 1) ((28 : Int32) + v1).toNatClampNeg), z_4.2) else none)))
theorem ok_X11_spent {l : Launch} {x : gw_C} {d : Nat} {S : gw_S} {Q : Option Value → gw_S → gw_M → Prop} {v1 : Int32} {a0 : Nat} {n0 : Nat} {μ : gw_M} {r μ'} (hS0 : gw_sh S 11 a0) (h : F_X11_spent n0 a0 v1 μ = some (r, μ')) (hq : Q (some (.int r)) S μ') : gw_ok l x (d + 2) sgX11_spent 0 0 [.ref a0, .int v1] S μ Q := by
  refine gw_ok_of stX11_spent (lv0 := [.ref a0, .int v1]) (Nat.le_of_ble_eq_true rfl) rfl rfl ?_
  intro K hK
  have ka0_0 : gw_kd S a0 = 11 := (hS0 0 _ rfl).1
  have ra0_0_0 : gw_rf S a0 0 = a0 + 1 := (hS0 0 _ rfl).2.2 (0, 1) (by decide)
  have ka0_1 : gw_kd S (a0 + 1) = 12 := (hS0 1 _ rfl).1
  have la0_1 : gw_ln S (a0 + 1) = 20813 := (hS0 1 _ rfl).2.1
  unfold F_X11_spent at h
  refine hK _ _ _ _ _ _ _ ?_
  rw [fdX11_spent_0]
  simp only [gt_nil, true_and, eq_self, gt_iload_n, gt_ink, gw_nth, gt_iconst, gt_s1_0, gt_s2_0, gt_s3_0, gt_s4_0, gt_s1_1, gt_s2_1, gt_s3_1, gt_s4_1, gt_acpy, gt_if, gt_aload_n, gt_rfk, gt_get_r, gt_get_i, gt_get_z, gt_bipush, gt_iadd, gt_iaload, gt_goto, bkX11_spent_0, ka0_0, ra0_0_0, ka0_1, la0_1]
  obtain ⟨⟨r_1, μ_2⟩, e_3, h⟩ := gw_bnd h
  refine ⟨rfl, 0, 0, Nat.le_refl _, Nat.le_refl _, ok_X11_isIn e_3 ?_⟩
  intro hbr_1
  dsimp only at h
  simp only [gt_nil, true_and, eq_self, gt_if, gt_aload_n, gt_rfk, gw_nth, gt_get_r, gt_get_i, gt_get_z, gt_bipush, gt_iload_n, gt_ink, gt_iadd, gt_iaload, gt_goto, Option.toList, List.cons_append, List.nil_append, Nat.add_zero, ka0_0, ra0_0_0, ka0_1, la0_1]
  refine ⟨fun c_5 => ?_, fun c_5 => ?_⟩
  · replace h := gw_ifp h c_5
    refine hK _ _ _ _ _ _ _ ?_
    rw [fdX11_spent_21]
    simp only [gt_nil, true_and, eq_self, gt_iconst, bkX11_spent_21, ka0_0, ra0_0_0, ka0_1, la0_1]
    refine hK _ _ _ _ _ _ _ ?_
    rw [fdX11_spent_22]
    simp only [gt_nil, true_and, eq_self, gt_iret, gt_retz, bkX11_spent_22, ka0_0, ra0_0_0, ka0_1, la0_1]
    cases h
    exact ⟨Nat.le_refl _, Nat.le_refl _, hq⟩
  · replace h := gw_ifn h c_5
    obtain ⟨c_6, h⟩ := gw_ife h
    refine ⟨c_6, ?_⟩
    refine hK _ _ _ _ _ _ _ ?_
    rw [fdX11_spent_22]
    simp only [gt_nil, true_and, eq_self, gt_iret, gt_retz, bkX11_spent_22, ka0_0, ra0_0_0, ka0_1, la0_1]
    cases h
    exact ⟨Nat.le_refl _, Nat.le_refl _, hq⟩
def F_X11_seenOf (n0 : Nat) (a0 : Nat) (v1 : Int32) (v2 : Int32) (μ : gw_M) : Option (Int32 × gw_M) := (F_X11_isIn n0 v1 0 7 μ).bind (fun (z_4 : Int32 × gw_M) => (if z_4.1 = 0 then some ((-1), z_4.2) else (F_X11_isIn n0 v2 0 2 z_4.2).bind (fun (z_9 : Int32 × gw_M) => (if ¬ z_9.1 = 0 then (if 0 ≤ (((32 : Int32) + ((3 : Int32) * v1)) + v2) ∧ (((32 : Int32) + ((3 : Int32) * v1)) + v2).toNatClampNeg < 20813 then some ((z_9.2 (a0 + 1) (((32 : Int32) + ((3 : Int32) * v1)) + v2).toNatClampNeg), z_9.2) else none) else some ((-1), z_9.2)))))
theorem ok_X11_seenOf {l : Launch} {x : gw_C} {d : Nat} {S : gw_S} {Q : Option Value → gw_S → gw_M → Prop} {v1 v2 : Int32} {a0 : Nat} {n0 : Nat} {μ : gw_M} {r μ'} (hS0 : gw_sh S 11 a0) (h : F_X11_seenOf n0 a0 v1 v2 μ = some (r, μ')) (hq : Q (some (.int r)) S μ') : gw_ok l x (d + 2) sgX11_seenOf 0 0 [.ref a0, .int v1, .int v2] S μ Q := by
  refine gw_ok_of stX11_seenOf (lv0 := [.ref a0, .int v1, .int v2]) (Nat.le_of_ble_eq_true rfl) rfl rfl ?_
  intro K hK
  have ka0_0 : gw_kd S a0 = 11 := (hS0 0 _ rfl).1
  have ra0_0_0 : gw_rf S a0 0 = a0 + 1 := (hS0 0 _ rfl).2.2 (0, 1) (by decide)
  have ka0_1 : gw_kd S (a0 + 1) = 12 := (hS0 1 _ rfl).1
  have la0_1 : gw_ln S (a0 + 1) = 20813 := (hS0 1 _ rfl).2.1
  unfold F_X11_seenOf at h
  refine hK _ _ _ _ _ _ _ ?_
  rw [fdX11_seenOf_0]
  simp only [gt_nil, true_and, eq_self, gt_iload_n, gt_ink, gw_nth, gt_iconst, gt_bipush, gt_s1_0, gt_s2_0, gt_s3_0, gt_s4_0, gt_s1_1, gt_s2_1, gt_s3_1, gt_s4_1, gt_acpy, gt_if, bkX11_seenOf_0, ka0_0, ra0_0_0, ka0_1, la0_1]
  obtain ⟨⟨r_1, μ_2⟩, e_3, h⟩ := gw_bnd h
  refine ⟨rfl, 0, 0, Nat.le_refl _, Nat.le_refl _, ok_X11_isIn e_3 ?_⟩
  intro hbr_1
  dsimp only at h
  simp only [gt_nil, true_and, eq_self, gt_if, gt_iload_n, gt_ink, gw_nth, gt_iconst, gt_s1_0, gt_s2_0, gt_s3_0, gt_s4_0, gt_s1_1, gt_s2_1, gt_s3_1, gt_s4_1, gt_acpy, Option.toList, List.cons_append, List.nil_append, Nat.add_zero, ka0_0, ra0_0_0, ka0_1, la0_1]
  refine ⟨fun c_5 => ?_, fun c_5 => ?_⟩
  · replace h := gw_ifp h c_5
    refine hK _ _ _ _ _ _ _ ?_
    rw [fdX11_seenOf_19]
    simp only [gt_nil, true_and, eq_self, gt_iconst, gt_iret, gt_retz, bkX11_seenOf_19, ka0_0, ra0_0_0, ka0_1, la0_1]
    cases h
    exact ⟨Nat.le_refl _, Nat.le_refl _, hq⟩
  · replace h := gw_ifn h c_5
    obtain ⟨⟨r_6, μ_7⟩, e_8, h⟩ := gw_bnd h
    refine ⟨rfl, 0, 0, Nat.le_refl _, Nat.le_refl _, ok_X11_isIn e_8 ?_⟩
    intro hbr_6
    dsimp only at h
    simp only [gt_nil, true_and, eq_self, gt_if, Option.toList, List.cons_append, List.nil_append, Nat.add_zero, ka0_0, ra0_0_0, ka0_1, la0_1]
    refine ⟨fun c_10 => ?_, fun c_10 => ?_⟩
    · replace h := gw_ifp h c_10
      refine hK _ _ _ _ _ _ _ ?_
      rw [fdX11_seenOf_21]
      simp only [gt_nil, true_and, eq_self, gt_aload_n, gt_rfk, gw_nth, gt_get_r, gt_get_i, gt_get_z, gt_bipush, gt_iconst, gt_iload_n, gt_ink, gt_imul, gt_iadd, gt_iaload, gt_iret, gt_retz, bkX11_seenOf_21, ka0_0, ra0_0_0, ka0_1, la0_1]
      obtain ⟨c_11, h⟩ := gw_ife h
      refine ⟨c_11, ?_⟩
      cases h
      exact ⟨Nat.le_refl _, Nat.le_refl _, hq⟩
    · replace h := gw_ifn h c_10
      refine hK _ _ _ _ _ _ _ ?_
      rw [fdX11_seenOf_19]
      simp only [gt_nil, true_and, eq_self, gt_iconst, gt_iret, gt_retz, bkX11_seenOf_19, ka0_0, ra0_0_0, ka0_1, la0_1]
      cases h
      exact ⟨Nat.le_refl _, Nat.le_refl _, hq⟩
def F_X11_pending (n0 : Nat) (a0 : Nat) (v1 : Int32) (μ : gw_M) : Option (Int32 × gw_M) := (F_X11_isGuest n0 v1 μ).bind (fun (z_4 : Int32 × gw_M) => (if z_4.1 = 0 then some ((-1), z_4.2) else (F_X11_guestAt n0 a0 v1 z_4.2).bind (fun (z_9 : Int32 × gw_M) => (if 0 ≤ (z_9.1 + (0 : Int32)) ∧ (z_9.1 + (0 : Int32)).toNatClampNeg < 20813 then some ((z_9.2 (a0 + 1) (z_9.1 + (0 : Int32)).toNatClampNeg), z_9.2) else none))))
theorem ok_X11_pending {l : Launch} {x : gw_C} {d : Nat} {S : gw_S} {Q : Option Value → gw_S → gw_M → Prop} {v1 : Int32} {a0 : Nat} {n0 : Nat} {μ : gw_M} {r μ'} (hS0 : gw_sh S 11 a0) (h : F_X11_pending n0 a0 v1 μ = some (r, μ')) (hq : Q (some (.int r)) S μ') : gw_ok l x (d + 3) sgX11_pending 0 0 [.ref a0, .int v1] S μ Q := by
  refine gw_ok_of stX11_pending (lv0 := [.ref a0, .int v1]) (Nat.le_of_ble_eq_true rfl) rfl rfl ?_
  intro K hK
  have ka0_0 : gw_kd S a0 = 11 := (hS0 0 _ rfl).1
  have ra0_0_0 : gw_rf S a0 0 = a0 + 1 := (hS0 0 _ rfl).2.2 (0, 1) (by decide)
  have ka0_1 : gw_kd S (a0 + 1) = 12 := (hS0 1 _ rfl).1
  have la0_1 : gw_ln S (a0 + 1) = 20813 := (hS0 1 _ rfl).2.1
  unfold F_X11_pending at h
  refine hK _ _ _ _ _ _ _ ?_
  rw [fdX11_pending_0]
  simp only [gt_nil, true_and, eq_self, gt_iload_n, gt_ink, gw_nth, gt_s1_0, gt_s2_0, gt_s3_0, gt_s4_0, gt_s1_1, gt_s2_1, gt_s3_1, gt_s4_1, gt_acpy, gt_if, gt_aload_n, gt_rfk, gt_get_r, gt_get_i, gt_get_z, gt_v0, gt_v1, gt_v2, gt_v3, gt_v4, gt_v5, gt_iconst, gt_iadd, gt_iaload, gt_goto, bkX11_pending_0, ka0_0, ra0_0_0, ka0_1, la0_1]
  obtain ⟨⟨r_1, μ_2⟩, e_3, h⟩ := gw_bnd h
  refine ⟨rfl, 0, 0, Nat.le_refl _, Nat.le_refl _, ok_X11_isGuest e_3 ?_⟩
  intro hbr_1
  dsimp only at h
  simp only [gt_nil, true_and, eq_self, gt_if, gt_aload_n, gt_rfk, gw_nth, gt_get_r, gt_get_i, gt_get_z, gt_iload_n, gt_ink, gt_v0, gt_v1, gt_v2, gt_v3, gt_v4, gt_v5, gt_iconst, gt_iadd, gt_iaload, gt_goto, Option.toList, List.cons_append, List.nil_append, Nat.add_zero, ka0_0, ra0_0_0, ka0_1, la0_1]
  refine ⟨fun c_5 => ?_, fun c_5 => ?_⟩
  · replace h := gw_ifp h c_5
    refine hK _ _ _ _ _ _ _ ?_
    rw [fdX11_pending_22]
    simp only [gt_nil, true_and, eq_self, gt_iconst, bkX11_pending_22, ka0_0, ra0_0_0, ka0_1, la0_1]
    refine hK _ _ _ _ _ _ _ ?_
    rw [fdX11_pending_23]
    simp only [gt_nil, true_and, eq_self, gt_iret, gt_retz, bkX11_pending_23, ka0_0, ra0_0_0, ka0_1, la0_1]
    cases h
    exact ⟨Nat.le_refl _, Nat.le_refl _, hq⟩
  · replace h := gw_ifn h c_5
    obtain ⟨⟨r_6, μ_7⟩, e_8, h⟩ := gw_bnd h
    refine ⟨rfl, 0, 0, Nat.le_refl _, Nat.le_refl _, ok_X11_guestAt hS0 e_8 ?_⟩
    dsimp only at h
    simp only [gt_nil, true_and, eq_self, gt_iconst, gt_iadd, gt_iaload, gt_goto, Option.toList, List.cons_append, List.nil_append, Nat.add_zero, ka0_0, ra0_0_0, ka0_1, la0_1]
    obtain ⟨c_10, h⟩ := gw_ife h
    refine ⟨c_10, ?_⟩
    refine hK _ _ _ _ _ _ _ ?_
    rw [fdX11_pending_23]
    simp only [gt_nil, true_and, eq_self, gt_iret, gt_retz, bkX11_pending_23, ka0_0, ra0_0_0, ka0_1, la0_1]
    cases h
    exact ⟨Nat.le_refl _, Nat.le_refl _, hq⟩
def F_X11_longest (n0 : Nat) (a0 : Nat) (v1 : Int32) (μ : gw_M) : Option (Int32 × gw_M) := (F_X11_isGuest n0 v1 μ).bind (fun (z_4 : Int32 × gw_M) => (if z_4.1 = 0 then some ((-1), z_4.2) else (if 0 ≤ (((56 : Int32) + v1) - (1 : Int32)) ∧ (((56 : Int32) + v1) - (1 : Int32)).toNatClampNeg < 20813 then some ((z_4.2 (a0 + 1) (((56 : Int32) + v1) - (1 : Int32)).toNatClampNeg), z_4.2) else none)))
theorem ok_X11_longest {l : Launch} {x : gw_C} {d : Nat} {S : gw_S} {Q : Option Value → gw_S → gw_M → Prop} {v1 : Int32} {a0 : Nat} {n0 : Nat} {μ : gw_M} {r μ'} (hS0 : gw_sh S 11 a0) (h : F_X11_longest n0 a0 v1 μ = some (r, μ')) (hq : Q (some (.int r)) S μ') : gw_ok l x (d + 3) sgX11_longest 0 0 [.ref a0, .int v1] S μ Q := by
  refine gw_ok_of stX11_longest (lv0 := [.ref a0, .int v1]) (Nat.le_of_ble_eq_true rfl) rfl rfl ?_
  intro K hK
  have ka0_0 : gw_kd S a0 = 11 := (hS0 0 _ rfl).1
  have ra0_0_0 : gw_rf S a0 0 = a0 + 1 := (hS0 0 _ rfl).2.2 (0, 1) (by decide)
  have ka0_1 : gw_kd S (a0 + 1) = 12 := (hS0 1 _ rfl).1
  have la0_1 : gw_ln S (a0 + 1) = 20813 := (hS0 1 _ rfl).2.1
  unfold F_X11_longest at h
  refine hK _ _ _ _ _ _ _ ?_
  rw [fdX11_longest_0]
  simp only [gt_nil, true_and, eq_self, gt_iload_n, gt_ink, gw_nth, gt_s1_0, gt_s2_0, gt_s3_0, gt_s4_0, gt_s1_1, gt_s2_1, gt_s3_1, gt_s4_1, gt_acpy, gt_if, gt_aload_n, gt_rfk, gt_get_r, gt_get_i, gt_get_z, gt_bipush, gt_iadd, gt_iconst, gt_isub, gt_iaload, gt_goto, bkX11_longest_0, ka0_0, ra0_0_0, ka0_1, la0_1]
  obtain ⟨⟨r_1, μ_2⟩, e_3, h⟩ := gw_bnd h
  refine ⟨rfl, 0, 0, Nat.le_refl _, Nat.le_refl _, ok_X11_isGuest e_3 ?_⟩
  intro hbr_1
  dsimp only at h
  simp only [gt_nil, true_and, eq_self, gt_if, gt_aload_n, gt_rfk, gw_nth, gt_get_r, gt_get_i, gt_get_z, gt_bipush, gt_iload_n, gt_ink, gt_iadd, gt_iconst, gt_isub, gt_iaload, gt_goto, Option.toList, List.cons_append, List.nil_append, Nat.add_zero, ka0_0, ra0_0_0, ka0_1, la0_1]
  refine ⟨fun c_5 => ?_, fun c_5 => ?_⟩
  · replace h := gw_ifp h c_5
    refine hK _ _ _ _ _ _ _ ?_
    rw [fdX11_longest_21]
    simp only [gt_nil, true_and, eq_self, gt_iconst, bkX11_longest_21, ka0_0, ra0_0_0, ka0_1, la0_1]
    refine hK _ _ _ _ _ _ _ ?_
    rw [fdX11_longest_22]
    simp only [gt_nil, true_and, eq_self, gt_iret, gt_retz, bkX11_longest_22, ka0_0, ra0_0_0, ka0_1, la0_1]
    cases h
    exact ⟨Nat.le_refl _, Nat.le_refl _, hq⟩
  · replace h := gw_ifn h c_5
    obtain ⟨c_6, h⟩ := gw_ife h
    refine ⟨c_6, ?_⟩
    refine hK _ _ _ _ _ _ _ ?_
    rw [fdX11_longest_22]
    simp only [gt_nil, true_and, eq_self, gt_iret, gt_retz, bkX11_longest_22, ka0_0, ra0_0_0, ka0_1, la0_1]
    cases h
    exact ⟨Nat.le_refl _, Nat.le_refl _, hq⟩
def F_X11_pendingFor (n0 : Nat) (a0 : Nat) (v1 : Int32) (v2 : Int32) (μ : gw_M) : Option (Int32 × gw_M) := (F_X11_isGuest n0 v1 μ).bind (fun (z_4 : Int32 × gw_M) => (if z_4.1 = 0 then some ((-1), z_4.2) else (F_X11_isIn n0 v2 0 15 z_4.2).bind (fun (z_9 : Int32 × gw_M) => (if z_9.1 = 0 then some ((-1), z_9.2) else (F_X11_guestAt n0 a0 v1 z_9.2).bind (fun (z_14 : Int32 × gw_M) => (if 0 ≤ (z_14.1 + (0 : Int32)) ∧ (z_14.1 + (0 : Int32)).toNatClampNeg < 20813 then (F_X11_has n0 (z_14.2 (a0 + 1) (z_14.1 + (0 : Int32)).toNatClampNeg) v2 z_14.2).bind (fun (z_19 : Int32 × gw_M) => (if ¬ z_19.1 = 0 then (F_X11_sinceOf n0 a0 v1 v2 z_19.2).bind (fun (z_24 : Int32 × gw_M) => some (z_24.1, z_24.2)) else some ((-1), z_19.2))) else none))))))
theorem ok_X11_pendingFor {l : Launch} {x : gw_C} {d : Nat} {S : gw_S} {Q : Option Value → gw_S → gw_M → Prop} {v1 v2 : Int32} {a0 : Nat} {n0 : Nat} {μ : gw_M} {r μ'} (hS0 : gw_sh S 11 a0) (h : F_X11_pendingFor n0 a0 v1 v2 μ = some (r, μ')) (hq : Q (some (.int r)) S μ') : gw_ok l x (d + 3) sgX11_pendingFor 0 0 [.ref a0, .int v1, .int v2] S μ Q := by
  refine gw_ok_of stX11_pendingFor (lv0 := [.ref a0, .int v1, .int v2]) (Nat.le_of_ble_eq_true rfl) rfl rfl ?_
  intro K hK
  have ka0_0 : gw_kd S a0 = 11 := (hS0 0 _ rfl).1
  have ra0_0_0 : gw_rf S a0 0 = a0 + 1 := (hS0 0 _ rfl).2.2 (0, 1) (by decide)
  have ka0_1 : gw_kd S (a0 + 1) = 12 := (hS0 1 _ rfl).1
  have la0_1 : gw_ln S (a0 + 1) = 20813 := (hS0 1 _ rfl).2.1
  unfold F_X11_pendingFor at h
  refine hK _ _ _ _ _ _ _ ?_
  rw [fdX11_pendingFor_0]
  simp only [gt_nil, true_and, eq_self, gt_iload_n, gt_ink, gw_nth, gt_s1_0, gt_s2_0, gt_s3_0, gt_s4_0, gt_s1_1, gt_s2_1, gt_s3_1, gt_s4_1, gt_acpy, gt_if, gt_iconst, gt_bipush, gt_aload_n, gt_rfk, gt_get_r, gt_get_i, gt_get_z, gt_v0, gt_v1, gt_v2, gt_v3, gt_v4, gt_v5, gt_iadd, gt_iaload, bkX11_pendingFor_0, ka0_0, ra0_0_0, ka0_1, la0_1]
  obtain ⟨⟨r_1, μ_2⟩, e_3, h⟩ := gw_bnd h
  refine ⟨rfl, 0, 0, Nat.le_refl _, Nat.le_refl _, ok_X11_isGuest e_3 ?_⟩
  intro hbr_1
  dsimp only at h
  simp only [gt_nil, true_and, eq_self, gt_if, gt_iload_n, gt_ink, gw_nth, gt_iconst, gt_bipush, gt_s1_0, gt_s2_0, gt_s3_0, gt_s4_0, gt_s1_1, gt_s2_1, gt_s3_1, gt_s4_1, gt_acpy, gt_aload_n, gt_rfk, gt_get_r, gt_get_i, gt_get_z, gt_v0, gt_v1, gt_v2, gt_v3, gt_v4, gt_v5, gt_iadd, gt_iaload, Option.toList, List.cons_append, List.nil_append, Nat.add_zero, ka0_0, ra0_0_0, ka0_1, la0_1]
  refine ⟨fun c_5 => ?_, fun c_5 => ?_⟩
  · replace h := gw_ifp h c_5
    refine hK _ _ _ _ _ _ _ ?_
    rw [fdX11_pendingFor_36]
    simp only [gt_nil, true_and, eq_self, gt_iconst, gt_iret, gt_retz, bkX11_pendingFor_36, ka0_0, ra0_0_0, ka0_1, la0_1]
    cases h
    exact ⟨Nat.le_refl _, Nat.le_refl _, hq⟩
  · replace h := gw_ifn h c_5
    obtain ⟨⟨r_6, μ_7⟩, e_8, h⟩ := gw_bnd h
    refine ⟨rfl, 0, 0, Nat.le_refl _, Nat.le_refl _, ok_X11_isIn e_8 ?_⟩
    intro hbr_6
    dsimp only at h
    simp only [gt_nil, true_and, eq_self, gt_if, gt_aload_n, gt_rfk, gw_nth, gt_get_r, gt_get_i, gt_get_z, gt_iload_n, gt_ink, gt_v0, gt_v1, gt_v2, gt_v3, gt_v4, gt_v5, gt_iconst, gt_iadd, gt_iaload, gt_s1_0, gt_s2_0, gt_s3_0, gt_s4_0, gt_s1_1, gt_s2_1, gt_s3_1, gt_s4_1, gt_acpy, Option.toList, List.cons_append, List.nil_append, Nat.add_zero, ka0_0, ra0_0_0, ka0_1, la0_1]
    refine ⟨fun c_10 => ?_, fun c_10 => ?_⟩
    · replace h := gw_ifp h c_10
      refine hK _ _ _ _ _ _ _ ?_
      rw [fdX11_pendingFor_36]
      simp only [gt_nil, true_and, eq_self, gt_iconst, gt_iret, gt_retz, bkX11_pendingFor_36, ka0_0, ra0_0_0, ka0_1, la0_1]
      cases h
      exact ⟨Nat.le_refl _, Nat.le_refl _, hq⟩
    · replace h := gw_ifn h c_10
      obtain ⟨⟨r_11, μ_12⟩, e_13, h⟩ := gw_bnd h
      refine ⟨rfl, 0, 0, Nat.le_refl _, Nat.le_refl _, ok_X11_guestAt hS0 e_13 ?_⟩
      dsimp only at h
      simp only [gt_nil, true_and, eq_self, gt_iconst, gt_iadd, gt_iaload, gt_iload_n, gt_ink, gw_nth, gt_s1_0, gt_s2_0, gt_s3_0, gt_s4_0, gt_s1_1, gt_s2_1, gt_s3_1, gt_s4_1, gt_acpy, gt_if, Option.toList, List.cons_append, List.nil_append, Nat.add_zero, ka0_0, ra0_0_0, ka0_1, la0_1]
      obtain ⟨c_15, h⟩ := gw_ife h
      refine ⟨c_15, ?_⟩
      obtain ⟨⟨r_16, μ_17⟩, e_18, h⟩ := gw_bnd h
      refine ⟨rfl, 0, 0, Nat.le_refl _, Nat.le_refl _, ok_X11_has e_18 ?_⟩
      intro hbr_16
      dsimp only at h
      simp only [gt_nil, true_and, eq_self, gt_if, Option.toList, List.cons_append, List.nil_append, Nat.add_zero, ka0_0, ra0_0_0, ka0_1, la0_1]
      refine ⟨fun c_20 => ?_, fun c_20 => ?_⟩
      · replace h := gw_ifp h c_20
        refine hK _ _ _ _ _ _ _ ?_
        rw [fdX11_pendingFor_38]
        simp only [gt_nil, true_and, eq_self, gt_aload_n, gt_rfk, gw_nth, gt_iload_n, gt_ink, gt_v0, gt_v1, gt_v2, gt_v3, gt_v4, gt_v5, gt_iret, gt_retz, bkX11_pendingFor_38, ka0_0, ra0_0_0, ka0_1, la0_1]
        obtain ⟨⟨r_21, μ_22⟩, e_23, h⟩ := gw_bnd h
        refine ⟨rfl, 0, 0, Nat.le_refl _, Nat.le_refl _, ok_X11_sinceOf hS0 e_23 ?_⟩
        dsimp only at h
        simp only [gt_nil, true_and, eq_self, gt_iret, gt_retz, Option.toList, List.cons_append, List.nil_append, Nat.add_zero, ka0_0, ra0_0_0, ka0_1, la0_1]
        cases h
        exact ⟨Nat.le_refl _, Nat.le_refl _, hq⟩
      · replace h := gw_ifn h c_20
        refine hK _ _ _ _ _ _ _ ?_
        rw [fdX11_pendingFor_36]
        simp only [gt_nil, true_and, eq_self, gt_iconst, gt_iret, gt_retz, bkX11_pendingFor_36, ka0_0, ra0_0_0, ka0_1, la0_1]
        cases h
        exact ⟨Nat.le_refl _, Nat.le_refl _, hq⟩
def F_X11_service (n0 : Nat) (a0 : Nat) (v1 : Int32) (μ : gw_M) : Option (Int32 × gw_M) := (F_X11_isGuest n0 v1 μ).bind (fun (z_4 : Int32 × gw_M) => (if z_4.1 = 0 then some ((-1), z_4.2) else (F_X11_guestAt n0 a0 v1 z_4.2).bind (fun (z_9 : Int32 × gw_M) => (if 0 ≤ (z_9.1 + (1 : Int32)) ∧ (z_9.1 + (1 : Int32)).toNatClampNeg < 20813 then some ((z_9.2 (a0 + 1) (z_9.1 + (1 : Int32)).toNatClampNeg), z_9.2) else none))))
theorem ok_X11_service {l : Launch} {x : gw_C} {d : Nat} {S : gw_S} {Q : Option Value → gw_S → gw_M → Prop} {v1 : Int32} {a0 : Nat} {n0 : Nat} {μ : gw_M} {r μ'} (hS0 : gw_sh S 11 a0) (h : F_X11_service n0 a0 v1 μ = some (r, μ')) (hq : Q (some (.int r)) S μ') : gw_ok l x (d + 3) sgX11_service 0 0 [.ref a0, .int v1] S μ Q := by
  refine gw_ok_of stX11_service (lv0 := [.ref a0, .int v1]) (Nat.le_of_ble_eq_true rfl) rfl rfl ?_
  intro K hK
  have ka0_0 : gw_kd S a0 = 11 := (hS0 0 _ rfl).1
  have ra0_0_0 : gw_rf S a0 0 = a0 + 1 := (hS0 0 _ rfl).2.2 (0, 1) (by decide)
  have ka0_1 : gw_kd S (a0 + 1) = 12 := (hS0 1 _ rfl).1
  have la0_1 : gw_ln S (a0 + 1) = 20813 := (hS0 1 _ rfl).2.1
  unfold F_X11_service at h
  refine hK _ _ _ _ _ _ _ ?_
  rw [fdX11_service_0]
  simp only [gt_nil, true_and, eq_self, gt_iload_n, gt_ink, gw_nth, gt_s1_0, gt_s2_0, gt_s3_0, gt_s4_0, gt_s1_1, gt_s2_1, gt_s3_1, gt_s4_1, gt_acpy, gt_if, gt_aload_n, gt_rfk, gt_get_r, gt_get_i, gt_get_z, gt_v0, gt_v1, gt_v2, gt_v3, gt_v4, gt_v5, gt_iconst, gt_iadd, gt_iaload, gt_goto, bkX11_service_0, ka0_0, ra0_0_0, ka0_1, la0_1]
  obtain ⟨⟨r_1, μ_2⟩, e_3, h⟩ := gw_bnd h
  refine ⟨rfl, 0, 0, Nat.le_refl _, Nat.le_refl _, ok_X11_isGuest e_3 ?_⟩
  intro hbr_1
  dsimp only at h
  simp only [gt_nil, true_and, eq_self, gt_if, gt_aload_n, gt_rfk, gw_nth, gt_get_r, gt_get_i, gt_get_z, gt_iload_n, gt_ink, gt_v0, gt_v1, gt_v2, gt_v3, gt_v4, gt_v5, gt_iconst, gt_iadd, gt_iaload, gt_goto, Option.toList, List.cons_append, List.nil_append, Nat.add_zero, ka0_0, ra0_0_0, ka0_1, la0_1]
  refine ⟨fun c_5 => ?_, fun c_5 => ?_⟩
  · replace h := gw_ifp h c_5
    refine hK _ _ _ _ _ _ _ ?_
    rw [fdX11_service_22]
    simp only [gt_nil, true_and, eq_self, gt_iconst, bkX11_service_22, ka0_0, ra0_0_0, ka0_1, la0_1]
    refine hK _ _ _ _ _ _ _ ?_
    rw [fdX11_service_23]
    simp only [gt_nil, true_and, eq_self, gt_iret, gt_retz, bkX11_service_23, ka0_0, ra0_0_0, ka0_1, la0_1]
    cases h
    exact ⟨Nat.le_refl _, Nat.le_refl _, hq⟩
  · replace h := gw_ifn h c_5
    obtain ⟨⟨r_6, μ_7⟩, e_8, h⟩ := gw_bnd h
    refine ⟨rfl, 0, 0, Nat.le_refl _, Nat.le_refl _, ok_X11_guestAt hS0 e_8 ?_⟩
    dsimp only at h
    simp only [gt_nil, true_and, eq_self, gt_iconst, gt_iadd, gt_iaload, gt_goto, Option.toList, List.cons_append, List.nil_append, Nat.add_zero, ka0_0, ra0_0_0, ka0_1, la0_1]
    obtain ⟨c_10, h⟩ := gw_ife h
    refine ⟨c_10, ?_⟩
    refine hK _ _ _ _ _ _ _ ?_
    rw [fdX11_service_23]
    simp only [gt_nil, true_and, eq_self, gt_iret, gt_retz, bkX11_service_23, ka0_0, ra0_0_0, ka0_1, la0_1]
    cases h
    exact ⟨Nat.le_refl _, Nat.le_refl _, hq⟩
def F_X11_entriesFrom_30 (rec4 : Int32 → Int32 → Int32 → gw_M → Option (Int32 × gw_M)) (n0 : Nat) (a0 : Nat) (v1 : Int32) (v3 : Int32) (s0 : Int32) (s1 : Int32) (μ : gw_M) : Option (Int32 × gw_M) := gw_let ((s0 + s1)) (fun (w_1 : Int32) => gw_let (v3 + 1) (fun (w_2 : Int32) => rec4 v1 w_1 w_2 μ))
def F_X11_entriesFrom_4 (n0 : Nat) (a0 : Nat) : Nat → Int32 → Int32 → Int32 → gw_M → Option (Int32 × gw_M)
  | 0, _, _, _, _ => none
  | n + 1, v1, v2, v3, μ => (if 16 ≤ v3 then some (v2, μ) else (if 0 ≤ (v1 + ((2 : Int32) * v3)) ∧ (v1 + ((2 : Int32) * v3)).toNatClampNeg < 20813 then (if ¬ (μ (a0 + 1) (v1 + ((2 : Int32) * v3)).toNatClampNeg) = (-1) then F_X11_entriesFrom_30 (F_X11_entriesFrom_4 n0 a0 n) n0 a0 v1 v3 v2 1 μ else F_X11_entriesFrom_30 (F_X11_entriesFrom_4 n0 a0 n) n0 a0 v1 v3 v2 0 μ) else none))
def F_X11_entriesFrom (n0 : Nat) (a0 : Nat) (v1 : Int32) (μ : gw_M) : Option (Int32 × gw_M) := F_X11_entriesFrom_4 n0 a0 n0 v1 0 0 μ
theorem B_X11_entriesFrom_30 {l : Launch} {x : gw_C} {d : Nat} {S : gw_S} {Q : Option Value → gw_S → gw_M → Prop} {K : Nat → gw_Kt} (hK : gw_cl l x (d + 0) bsX11_entriesFrom Q K) {a0 : Nat} (hS0 : gw_sh S 11 a0) {rec4 : Int32 → Int32 → Int32 → gw_M → Option (Int32 × gw_M)} (hrec4 : ∀ {v1 v2 v3} {μ : gw_M} {r μ'}, rec4 v1 v2 v3 μ = some (r, μ') → Q (some (.int r)) S μ' → K 4 [.ref a0, .int v1, .int v2, .int v3] [] S μ 0 0) {n0 : Nat} {v1 v3 s0 s1} {u2 : Value} {μ : gw_M} {r μ'} (h : F_X11_entriesFrom_30 rec4 n0 a0 v1 v3 s0 s1 μ = some (r, μ')) (hq : Q (some (.int r)) S μ') : K 30 [.ref a0, .int v1, u2, .int v3] [.int s1, .int s0] S μ 0 0 := by
  unfold F_X11_entriesFrom_30 at h
  refine hK _ _ _ _ _ _ _ ?_
  rw [fdX11_entriesFrom_30]
  simp only [gt_nil, true_and, eq_self, gt_iadd, gt_istore_n, gw_set, gt_iinc, gt_ink, gw_nth, gt_goto, bkX11_entriesFrom_30]
  obtain ⟨w_1, hw_1, h⟩ := gw_lt h
  try rw [← hw_1]
  obtain ⟨w_2, hw_2, h⟩ := gw_lt h
  try rw [← hw_2]
  exact hrec4 h hq
theorem B_X11_entriesFrom_4 {l : Launch} {x : gw_C} {d : Nat} {S : gw_S} {Q : Option Value → gw_S → gw_M → Prop} {K : Nat → gw_Kt} (hK : gw_cl l x (d + 0) bsX11_entriesFrom Q K) {a0 : Nat} (hS0 : gw_sh S 11 a0) {n0 : Nat} : ∀ {n : Nat} {v1 v2 v3} {μ : gw_M} {r μ'}, F_X11_entriesFrom_4 n0 a0 n v1 v2 v3 μ = some (r, μ') → Q (some (.int r)) S μ' → K 4 [.ref a0, .int v1, .int v2, .int v3] [] S μ 0 0 := by
  have ka0_0 : gw_kd S a0 = 11 := (hS0 0 _ rfl).1
  have ra0_0_0 : gw_rf S a0 0 = a0 + 1 := (hS0 0 _ rfl).2.2 (0, 1) (by decide)
  have ka0_1 : gw_kd S (a0 + 1) = 12 := (hS0 1 _ rfl).1
  have la0_1 : gw_ln S (a0 + 1) = 20813 := (hS0 1 _ rfl).2.1
  intro n
  induction n with
  | zero => intro v1 v2 v3 μ r μ' h hq; simp [F_X11_entriesFrom_4] at h
  | succ n ih =>
    intro v1 v2 v3 μ r μ' h hq
    simp only [F_X11_entriesFrom_4] at h
    refine hK _ _ _ _ _ _ _ ?_
    rw [fdX11_entriesFrom_4]
    simp only [gt_nil, true_and, eq_self, gt_iload_n, gt_ink, gw_nth, gt_bipush, gt_icmp, gt_aload_n, gt_rfk, gt_get_r, gt_get_i, gt_get_z, gt_iconst, gt_imul, gt_iadd, gt_iaload, gt_goto, bkX11_entriesFrom_4, ka0_0, ra0_0_0, ka0_1, la0_1]
    refine ⟨fun c_1 => ?_, fun c_1 => ?_⟩
    · replace h := gw_ifp h c_1
      refine hK _ _ _ _ _ _ _ ?_
      rw [fdX11_entriesFrom_38]
      simp only [gt_nil, true_and, eq_self, gt_iload_n, gt_ink, gw_nth, gt_iret, gt_retz, bkX11_entriesFrom_38, ka0_0, ra0_0_0, ka0_1, la0_1]
      cases h
      exact ⟨Nat.le_refl _, Nat.le_refl _, hq⟩
    · replace h := gw_ifn h c_1
      obtain ⟨c_2, h⟩ := gw_ife h
      refine ⟨c_2, ?_⟩
      refine ⟨fun c_3 => ?_, fun c_3 => ?_⟩
      · replace h := gw_ifp h c_3
        refine hK _ _ _ _ _ _ _ ?_
        rw [fdX11_entriesFrom_29]
        simp only [gt_nil, true_and, eq_self, gt_iconst, bkX11_entriesFrom_29, ka0_0, ra0_0_0, ka0_1, la0_1]
        exact B_X11_entriesFrom_30 hK hS0 ih h hq
      · replace h := gw_ifn h c_3
        exact B_X11_entriesFrom_30 hK hS0 ih h hq
theorem ok_X11_entriesFrom {l : Launch} {x : gw_C} {d : Nat} {S : gw_S} {Q : Option Value → gw_S → gw_M → Prop} {v1 : Int32} {a0 : Nat} {n0 : Nat} {μ : gw_M} {r μ'} (hS0 : gw_sh S 11 a0) (h : F_X11_entriesFrom n0 a0 v1 μ = some (r, μ')) (hq : Q (some (.int r)) S μ') : gw_ok l x (d + 1) sgX11_entriesFrom 0 0 [.ref a0, .int v1] S μ Q := by
  refine gw_ok_of stX11_entriesFrom (lv0 := [.ref a0, .int v1, .retAddr 0, .retAddr 0]) (Nat.le_of_ble_eq_true rfl) rfl rfl ?_
  intro K hK
  unfold F_X11_entriesFrom at h
  refine hK _ _ _ _ _ _ _ ?_
  rw [fdX11_entriesFrom_0]
  simp only [gt_nil, true_and, eq_self, gt_iconst, gt_istore_n, gw_set, bkX11_entriesFrom_0]
  exact B_X11_entriesFrom_4 hK hS0 h hq
def F_X11_putBy_76 (n0 : Nat) (a0 : Nat) (v2 : Int32) (v3 : Int32) (μ : gw_M) : Option (Int32 × gw_M) := (F_X11_entriesFrom n0 a0 ((v3 + (79 : Int32)) + ((32 : Int32) * v2)) μ).bind (fun (z_4 : Int32 × gw_M) => some (z_4.1, z_4.2))
def F_X11_putBy (n0 : Nat) (a0 : Nat) (v1 : Int32) (v2 : Int32) (μ : gw_M) : Option (Int32 × gw_M) := (F_X11_isIn n0 v1 0 2 μ).bind (fun (z_4 : Int32 × gw_M) => (if z_4.1 = 0 then some ((-1), z_4.2) else (if ¬ v1 = (z_4.2 (a0 + 1) 15) then gw_let (((58 : Int32) + ((162 : Int32) * ((1 : Int32) + v1)))) (fun (w_7 : Int32) => (if v2 = (0 : Int32) then F_X11_putBy_76 n0 a0 v2 w_7 z_4.2 else (if v2 = ((0 : Int32) + 1) then F_X11_putBy_76 n0 a0 v2 w_7 z_4.2 else (if v2 = (((0 : Int32) + 1) + 1) then (if 0 ≤ (w_7 + (5 : Int32)) ∧ (w_7 + (5 : Int32)).toNatClampNeg < 20813 then some ((z_4.2 (a0 + 1) (w_7 + (5 : Int32)).toNatClampNeg), z_4.2) else none) else (if v2 = ((((0 : Int32) + 1) + 1) + 1) then (if 0 ≤ (w_7 + (0 : Int32)) ∧ (w_7 + (0 : Int32)).toNatClampNeg < 20813 then some ((z_4.2 (a0 + 1) (w_7 + (0 : Int32)).toNatClampNeg), z_4.2) else none) else (if v2 = (((((0 : Int32) + 1) + 1) + 1) + 1) then (if 0 ≤ (w_7 + (1 : Int32)) ∧ (w_7 + (1 : Int32)).toNatClampNeg < 20813 then some ((z_4.2 (a0 + 1) (w_7 + (1 : Int32)).toNatClampNeg), z_4.2) else none) else (if v2 = ((((((0 : Int32) + 1) + 1) + 1) + 1) + 1) then (if 0 ≤ (w_7 + (2 : Int32)) ∧ (w_7 + (2 : Int32)).toNatClampNeg < 20813 then some ((z_4.2 (a0 + 1) (w_7 + (2 : Int32)).toNatClampNeg), z_4.2) else none) else (if v2 = (((((((0 : Int32) + 1) + 1) + 1) + 1) + 1) + 1) then (if 0 ≤ (w_7 + (6 : Int32)) ∧ (w_7 + (6 : Int32)).toNatClampNeg < 20813 then some ((z_4.2 (a0 + 1) (w_7 + (6 : Int32)).toNatClampNeg), z_4.2) else none) else some ((-1), z_4.2))))))))) else some ((-1), z_4.2))))
theorem B_X11_putBy_76 {l : Launch} {x : gw_C} {d : Nat} {S : gw_S} {Q : Option Value → gw_S → gw_M → Prop} {K : Nat → gw_Kt} (hK : gw_cl l x (d + 1) bsX11_putBy Q K) {a0 : Nat} (hS0 : gw_sh S 11 a0) {n0 : Nat} {v2 v3} {u1 : Value} {μ : gw_M} {r μ'} (h : F_X11_putBy_76 n0 a0 v2 v3 μ = some (r, μ')) (hq : Q (some (.int r)) S μ') : K 76 [.ref a0, u1, .int v2, .int v3] [] S μ 0 0 := by
  have ka0_0 : gw_kd S a0 = 11 := (hS0 0 _ rfl).1
  unfold F_X11_putBy_76 at h
  refine hK _ _ _ _ _ _ _ ?_
  rw [fdX11_putBy_76]
  simp only [gt_nil, true_and, eq_self, gt_aload_n, gt_rfk, gw_nth, gt_iload_n, gt_ink, gt_bipush, gt_iadd, gt_imul, gt_v0, gt_v1, gt_v2, gt_v3, gt_v4, gt_v5, gt_iret, gt_retz, bkX11_putBy_76, ka0_0]
  obtain ⟨⟨r_1, μ_2⟩, e_3, h⟩ := gw_bnd h
  refine ⟨rfl, 0, 0, Nat.le_refl _, Nat.le_refl _, ok_X11_entriesFrom hS0 e_3 ?_⟩
  dsimp only at h
  simp only [gt_nil, true_and, eq_self, gt_iret, gt_retz, Option.toList, List.cons_append, List.nil_append, Nat.add_zero, ka0_0]
  cases h
  exact ⟨Nat.le_refl _, Nat.le_refl _, hq⟩
theorem ok_X11_putBy {l : Launch} {x : gw_C} {d : Nat} {S : gw_S} {Q : Option Value → gw_S → gw_M → Prop} {v1 v2 : Int32} {a0 : Nat} {n0 : Nat} {μ : gw_M} {r μ'} (hS0 : gw_sh S 11 a0) (h : F_X11_putBy n0 a0 v1 v2 μ = some (r, μ')) (hq : Q (some (.int r)) S μ') : gw_ok l x (d + 2) sgX11_putBy 0 0 [.ref a0, .int v1, .int v2] S μ Q := by
  refine gw_ok_of stX11_putBy (lv0 := [.ref a0, .int v1, .int v2, .retAddr 0]) (Nat.le_of_ble_eq_true rfl) rfl rfl ?_
  intro K hK
  have ka0_0 : gw_kd S a0 = 11 := (hS0 0 _ rfl).1
  have ra0_0_0 : gw_rf S a0 0 = a0 + 1 := (hS0 0 _ rfl).2.2 (0, 1) (by decide)
  have ka0_1 : gw_kd S (a0 + 1) = 12 := (hS0 1 _ rfl).1
  have la0_1 : gw_ln S (a0 + 1) = 20813 := (hS0 1 _ rfl).2.1
  unfold F_X11_putBy at h
  refine hK _ _ _ _ _ _ _ ?_
  rw [fdX11_putBy_0]
  simp only [gt_nil, true_and, eq_self, gt_iload_n, gt_ink, gw_nth, gt_iconst, gt_s1_0, gt_s2_0, gt_s3_0, gt_s4_0, gt_s1_1, gt_s2_1, gt_s3_1, gt_s4_1, gt_acpy, gt_if, gt_aload_n, gt_rfk, gt_get_r, gt_get_i, gt_get_z, gt_bipush, gt_iaload, gt_icmp, bkX11_putBy_0, ka0_0, ra0_0_0, ka0_1, la0_1, (show Int32.toNatClampNeg 15 = 15 from rfl)]
  obtain ⟨⟨r_1, μ_2⟩, e_3, h⟩ := gw_bnd h
  refine ⟨rfl, 0, 0, Nat.le_refl _, Nat.le_refl _, ok_X11_isIn e_3 ?_⟩
  intro hbr_1
  dsimp only at h
  simp only [gt_nil, true_and, eq_self, gt_if, gt_iload_n, gt_ink, gw_nth, gt_aload_n, gt_rfk, gt_get_r, gt_get_i, gt_get_z, gt_bipush, gt_iaload, gt_icmp, Option.toList, List.cons_append, List.nil_append, Nat.add_zero, ka0_0, ra0_0_0, ka0_1, la0_1, (show Int32.toNatClampNeg 15 = 15 from rfl)]
  refine ⟨fun c_5 => ?_, fun c_5 => ?_⟩
  · replace h := gw_ifp h c_5
    refine hK _ _ _ _ _ _ _ ?_
    rw [fdX11_putBy_20]
    simp only [gt_nil, true_and, eq_self, gt_iconst, gt_iret, gt_retz, bkX11_putBy_20, ka0_0, ra0_0_0, ka0_1, la0_1, (show Int32.toNatClampNeg 15 = 15 from rfl)]
    cases h
    exact ⟨Nat.le_refl _, Nat.le_refl _, hq⟩
  · replace h := gw_ifn h c_5
    refine ⟨(⟨by decide, by decide⟩ : gw_in 15 20813), ?_⟩
    refine ⟨fun c_6 => ?_, fun c_6 => ?_⟩
    · replace h := gw_ifp h c_6
      refine hK _ _ _ _ _ _ _ ?_
      rw [fdX11_putBy_22]
      simp only [gt_nil, true_and, eq_self, gt_bipush, gt_sipush, gt_iconst, gt_iload_n, gt_ink, gw_nth, gt_iadd, gt_imul, gt_istore_n, gw_set, gt_tsw, gw_sw, bkX11_putBy_22, ka0_0, ra0_0_0, ka0_1, la0_1, (show Int32.toNatClampNeg 15 = 15 from rfl)]
      obtain ⟨w_7, hw_7, h⟩ := gw_lt h
      try rw [← hw_7]
      refine ⟨fun c_8 => ?_, fun c_8 => ?_⟩
      · replace h := gw_ifp h c_8
        exact B_X11_putBy_76 hK hS0 h hq
      replace h := gw_ifn h c_8
      refine ⟨fun c_9 => ?_, fun c_9 => ?_⟩
      · replace h := gw_ifp h c_9
        exact B_X11_putBy_76 hK hS0 h hq
      replace h := gw_ifn h c_9
      refine ⟨fun c_10 => ?_, fun c_10 => ?_⟩
      · replace h := gw_ifp h c_10
        refine hK _ _ _ _ _ _ _ ?_
        rw [fdX11_putBy_90]
        simp only [gt_nil, true_and, eq_self, gt_aload_n, gt_rfk, gw_nth, gt_get_r, gt_get_i, gt_get_z, gt_iload_n, gt_ink, gt_iconst, gt_iadd, gt_iaload, gt_iret, gt_retz, bkX11_putBy_90, ka0_0, ra0_0_0, ka0_1, la0_1, (show Int32.toNatClampNeg 15 = 15 from rfl)]
        obtain ⟨c_11, h⟩ := gw_ife h
        refine ⟨c_11, ?_⟩
        cases h
        exact ⟨Nat.le_refl _, Nat.le_refl _, hq⟩
      replace h := gw_ifn h c_10
      refine ⟨fun c_12 => ?_, fun c_12 => ?_⟩
      · replace h := gw_ifp h c_12
        refine hK _ _ _ _ _ _ _ ?_
        rw [fdX11_putBy_99]
        simp only [gt_nil, true_and, eq_self, gt_aload_n, gt_rfk, gw_nth, gt_get_r, gt_get_i, gt_get_z, gt_iload_n, gt_ink, gt_iconst, gt_iadd, gt_iaload, gt_iret, gt_retz, bkX11_putBy_99, ka0_0, ra0_0_0, ka0_1, la0_1, (show Int32.toNatClampNeg 15 = 15 from rfl)]
        obtain ⟨c_13, h⟩ := gw_ife h
        refine ⟨c_13, ?_⟩
        cases h
        exact ⟨Nat.le_refl _, Nat.le_refl _, hq⟩
      replace h := gw_ifn h c_12
      refine ⟨fun c_14 => ?_, fun c_14 => ?_⟩
      · replace h := gw_ifp h c_14
        refine hK _ _ _ _ _ _ _ ?_
        rw [fdX11_putBy_108]
        simp only [gt_nil, true_and, eq_self, gt_aload_n, gt_rfk, gw_nth, gt_get_r, gt_get_i, gt_get_z, gt_iload_n, gt_ink, gt_iconst, gt_iadd, gt_iaload, gt_iret, gt_retz, bkX11_putBy_108, ka0_0, ra0_0_0, ka0_1, la0_1, (show Int32.toNatClampNeg 15 = 15 from rfl)]
        obtain ⟨c_15, h⟩ := gw_ife h
        refine ⟨c_15, ?_⟩
        cases h
        exact ⟨Nat.le_refl _, Nat.le_refl _, hq⟩
      replace h := gw_ifn h c_14
      refine ⟨fun c_16 => ?_, fun c_16 => ?_⟩
      · replace h := gw_ifp h c_16
        refine hK _ _ _ _ _ _ _ ?_
        rw [fdX11_putBy_117]
        simp only [gt_nil, true_and, eq_self, gt_aload_n, gt_rfk, gw_nth, gt_get_r, gt_get_i, gt_get_z, gt_iload_n, gt_ink, gt_iconst, gt_iadd, gt_iaload, gt_iret, gt_retz, bkX11_putBy_117, ka0_0, ra0_0_0, ka0_1, la0_1, (show Int32.toNatClampNeg 15 = 15 from rfl)]
        obtain ⟨c_17, h⟩ := gw_ife h
        refine ⟨c_17, ?_⟩
        cases h
        exact ⟨Nat.le_refl _, Nat.le_refl _, hq⟩
      replace h := gw_ifn h c_16
      refine ⟨fun c_18 => ?_, fun c_18 => ?_⟩
      · replace h := gw_ifp h c_18
        refine hK _ _ _ _ _ _ _ ?_
        rw [fdX11_putBy_126]
        simp only [gt_nil, true_and, eq_self, gt_aload_n, gt_rfk, gw_nth, gt_get_r, gt_get_i, gt_get_z, gt_iload_n, gt_ink, gt_bipush, gt_iadd, gt_iaload, gt_iret, gt_retz, bkX11_putBy_126, ka0_0, ra0_0_0, ka0_1, la0_1, (show Int32.toNatClampNeg 15 = 15 from rfl)]
        obtain ⟨c_19, h⟩ := gw_ife h
        refine ⟨c_19, ?_⟩
        cases h
        exact ⟨Nat.le_refl _, Nat.le_refl _, hq⟩
      replace h := gw_ifn h c_18
      refine hK _ _ _ _ _ _ _ ?_
      rw [fdX11_putBy_136]
      simp only [gt_nil, true_and, eq_self, gt_iconst, gt_iret, gt_retz, bkX11_putBy_136, ka0_0, ra0_0_0, ka0_1, la0_1, (show Int32.toNatClampNeg 15 = 15 from rfl)]
      cases h
      exact ⟨Nat.le_refl _, Nat.le_refl _, hq⟩
    · replace h := gw_ifn h c_6
      refine hK _ _ _ _ _ _ _ ?_
      rw [fdX11_putBy_20]
      simp only [gt_nil, true_and, eq_self, gt_iconst, gt_iret, gt_retz, bkX11_putBy_20, ka0_0, ra0_0_0, ka0_1, la0_1, (show Int32.toNatClampNeg 15 = 15 from rfl)]
      cases h
      exact ⟨Nat.le_refl _, Nat.le_refl _, hq⟩
def F_X11_isOpen_27 (n0 : Nat) (a0 : Nat) (μ : gw_M) : Option (Int32 × gw_M) := some (0, μ)
def F_X11_isOpen (n0 : Nat) (a0 : Nat) (v1 : Int32) (μ : gw_M) : Option (Int32 × gw_M) := (F_X11_isGuest n0 v1 μ).bind (fun (z_4 : Int32 × gw_M) => (if z_4.1 = 0 then F_X11_isOpen_27 n0 a0 z_4.2 else (F_X11_guestAt n0 a0 v1 z_4.2).bind (fun (z_9 : Int32 × gw_M) => (if 0 ≤ (z_9.1 + (2 : Int32)) ∧ (z_9.1 + (2 : Int32)).toNatClampNeg < 20813 then (if ¬ (z_9.2 (a0 + 1) (z_9.1 + (2 : Int32)).toNatClampNeg) = 1 then F_X11_isOpen_27 n0 a0 z_9.2 else some (1, z_9.2)) else none))))
theorem B_X11_isOpen_27 {l : Launch} {x : gw_C} {d : Nat} {S : gw_S} {Q : Option Value → gw_S → gw_M → Prop} {K : Nat → gw_Kt} (hK : gw_cl l x (d + 2) bsX11_isOpen Q K) {a0 : Nat} (hS0 : gw_sh S 11 a0) {n0 : Nat}  {u1 : Value} {μ : gw_M} {r μ'} (h : F_X11_isOpen_27 n0 a0 μ = some (r, μ')) (hq : ((r = 0 ∨ r = 1) → Q (some (.int r)) S μ')) : K 27 [.ref a0, u1] [] S μ 0 0 := by
  unfold F_X11_isOpen_27 at h
  refine hK _ _ _ _ _ _ _ ?_
  rw [fdX11_isOpen_27]
  simp only [gt_nil, true_and, eq_self, gt_iconst, bkX11_isOpen_27]
  refine hK _ _ _ _ _ _ _ ?_
  rw [fdX11_isOpen_28]
  simp only [gt_nil, true_and, eq_self, gt_iret, gt_retz, bkX11_isOpen_28]
  cases h
  exact ⟨(Or.inl rfl), Nat.le_refl _, Nat.le_refl _, hq (Or.inl rfl)⟩
theorem ok_X11_isOpen {l : Launch} {x : gw_C} {d : Nat} {S : gw_S} {Q : Option Value → gw_S → gw_M → Prop} {v1 : Int32} {a0 : Nat} {n0 : Nat} {μ : gw_M} {r μ'} (hS0 : gw_sh S 11 a0) (h : F_X11_isOpen n0 a0 v1 μ = some (r, μ')) (hq : ((r = 0 ∨ r = 1) → Q (some (.int r)) S μ')) : gw_ok l x (d + 3) sgX11_isOpen 0 0 [.ref a0, .int v1] S μ Q := by
  refine gw_ok_of stX11_isOpen (lv0 := [.ref a0, .int v1]) (Nat.le_of_ble_eq_true rfl) rfl rfl ?_
  intro K hK
  have ka0_0 : gw_kd S a0 = 11 := (hS0 0 _ rfl).1
  have ra0_0_0 : gw_rf S a0 0 = a0 + 1 := (hS0 0 _ rfl).2.2 (0, 1) (by decide)
  have ka0_1 : gw_kd S (a0 + 1) = 12 := (hS0 1 _ rfl).1
  have la0_1 : gw_ln S (a0 + 1) = 20813 := (hS0 1 _ rfl).2.1
  unfold F_X11_isOpen at h
  refine hK _ _ _ _ _ _ _ ?_
  rw [fdX11_isOpen_0]
  simp only [gt_nil, true_and, eq_self, gt_iload_n, gt_ink, gw_nth, gt_s1_0, gt_s2_0, gt_s3_0, gt_s4_0, gt_s1_1, gt_s2_1, gt_s3_1, gt_s4_1, gt_acpy, gt_if, gt_aload_n, gt_rfk, gt_get_r, gt_get_i, gt_get_z, gt_v0, gt_v1, gt_v2, gt_v3, gt_v4, gt_v5, gt_iconst, gt_iadd, gt_iaload, gt_icmp, gt_goto, bkX11_isOpen_0, ka0_0, ra0_0_0, ka0_1, la0_1]
  obtain ⟨⟨r_1, μ_2⟩, e_3, h⟩ := gw_bnd h
  refine ⟨rfl, 0, 0, Nat.le_refl _, Nat.le_refl _, ok_X11_isGuest e_3 ?_⟩
  intro hbr_1
  dsimp only at h
  simp only [gt_nil, true_and, eq_self, gt_if, gt_aload_n, gt_rfk, gw_nth, gt_get_r, gt_get_i, gt_get_z, gt_iload_n, gt_ink, gt_v0, gt_v1, gt_v2, gt_v3, gt_v4, gt_v5, gt_iconst, gt_iadd, gt_iaload, gt_icmp, gt_goto, Option.toList, List.cons_append, List.nil_append, Nat.add_zero, ka0_0, ra0_0_0, ka0_1, la0_1]
  refine ⟨fun c_5 => ?_, fun c_5 => ?_⟩
  · replace h := gw_ifp h c_5
    exact B_X11_isOpen_27 hK hS0 h hq
  · replace h := gw_ifn h c_5
    obtain ⟨⟨r_6, μ_7⟩, e_8, h⟩ := gw_bnd h
    refine ⟨rfl, 0, 0, Nat.le_refl _, Nat.le_refl _, ok_X11_guestAt hS0 e_8 ?_⟩
    dsimp only at h
    simp only [gt_nil, true_and, eq_self, gt_iconst, gt_iadd, gt_iaload, gt_icmp, gt_goto, Option.toList, List.cons_append, List.nil_append, Nat.add_zero, ka0_0, ra0_0_0, ka0_1, la0_1]
    obtain ⟨c_10, h⟩ := gw_ife h
    refine ⟨c_10, ?_⟩
    refine ⟨fun c_11 => ?_, fun c_11 => ?_⟩
    · replace h := gw_ifp h c_11
      exact B_X11_isOpen_27 hK hS0 h hq
    · replace h := gw_ifn h c_11
      refine hK _ _ _ _ _ _ _ ?_
      rw [fdX11_isOpen_28]
      simp only [gt_nil, true_and, eq_self, gt_iret, gt_retz, bkX11_isOpen_28, ka0_0, ra0_0_0, ka0_1, la0_1]
      cases h
      exact ⟨(Or.inr rfl), Nat.le_refl _, Nat.le_refl _, hq (Or.inr rfl)⟩
def F_X11_taken (n0 : Nat) (a0 : Nat) (v1 : Int32) (μ : gw_M) : Option (Int32 × gw_M) := (F_X11_isGuest n0 v1 μ).bind (fun (z_4 : Int32 × gw_M) => (if z_4.1 = 0 then some ((-1), z_4.2) else (if 0 ≤ (((19 : Int32) + v1) - (1 : Int32)) ∧ (((19 : Int32) + v1) - (1 : Int32)).toNatClampNeg < 20813 then some ((z_4.2 (a0 + 1) (((19 : Int32) + v1) - (1 : Int32)).toNatClampNeg), z_4.2) else none)))
theorem ok_X11_taken {l : Launch} {x : gw_C} {d : Nat} {S : gw_S} {Q : Option Value → gw_S → gw_M → Prop} {v1 : Int32} {a0 : Nat} {n0 : Nat} {μ : gw_M} {r μ'} (hS0 : gw_sh S 11 a0) (h : F_X11_taken n0 a0 v1 μ = some (r, μ')) (hq : Q (some (.int r)) S μ') : gw_ok l x (d + 3) sgX11_taken 0 0 [.ref a0, .int v1] S μ Q := by
  refine gw_ok_of stX11_taken (lv0 := [.ref a0, .int v1]) (Nat.le_of_ble_eq_true rfl) rfl rfl ?_
  intro K hK
  have ka0_0 : gw_kd S a0 = 11 := (hS0 0 _ rfl).1
  have ra0_0_0 : gw_rf S a0 0 = a0 + 1 := (hS0 0 _ rfl).2.2 (0, 1) (by decide)
  have ka0_1 : gw_kd S (a0 + 1) = 12 := (hS0 1 _ rfl).1
  have la0_1 : gw_ln S (a0 + 1) = 20813 := (hS0 1 _ rfl).2.1
  unfold F_X11_taken at h
  refine hK _ _ _ _ _ _ _ ?_
  rw [fdX11_taken_0]
  simp only [gt_nil, true_and, eq_self, gt_iload_n, gt_ink, gw_nth, gt_s1_0, gt_s2_0, gt_s3_0, gt_s4_0, gt_s1_1, gt_s2_1, gt_s3_1, gt_s4_1, gt_acpy, gt_if, gt_aload_n, gt_rfk, gt_get_r, gt_get_i, gt_get_z, gt_bipush, gt_iadd, gt_iconst, gt_isub, gt_iaload, gt_goto, bkX11_taken_0, ka0_0, ra0_0_0, ka0_1, la0_1]
  obtain ⟨⟨r_1, μ_2⟩, e_3, h⟩ := gw_bnd h
  refine ⟨rfl, 0, 0, Nat.le_refl _, Nat.le_refl _, ok_X11_isGuest e_3 ?_⟩
  intro hbr_1
  dsimp only at h
  simp only [gt_nil, true_and, eq_self, gt_if, gt_aload_n, gt_rfk, gw_nth, gt_get_r, gt_get_i, gt_get_z, gt_bipush, gt_iload_n, gt_ink, gt_iadd, gt_iconst, gt_isub, gt_iaload, gt_goto, Option.toList, List.cons_append, List.nil_append, Nat.add_zero, ka0_0, ra0_0_0, ka0_1, la0_1]
  refine ⟨fun c_5 => ?_, fun c_5 => ?_⟩
  · replace h := gw_ifp h c_5
    refine hK _ _ _ _ _ _ _ ?_
    rw [fdX11_taken_21]
    simp only [gt_nil, true_and, eq_self, gt_iconst, bkX11_taken_21, ka0_0, ra0_0_0, ka0_1, la0_1]
    refine hK _ _ _ _ _ _ _ ?_
    rw [fdX11_taken_22]
    simp only [gt_nil, true_and, eq_self, gt_iret, gt_retz, bkX11_taken_22, ka0_0, ra0_0_0, ka0_1, la0_1]
    cases h
    exact ⟨Nat.le_refl _, Nat.le_refl _, hq⟩
  · replace h := gw_ifn h c_5
    obtain ⟨c_6, h⟩ := gw_ife h
    refine ⟨c_6, ?_⟩
    refine hK _ _ _ _ _ _ _ ?_
    rw [fdX11_taken_22]
    simp only [gt_nil, true_and, eq_self, gt_iret, gt_retz, bkX11_taken_22, ka0_0, ra0_0_0, ka0_1, la0_1]
    cases h
    exact ⟨Nat.le_refl _, Nat.le_refl _, hq⟩
def F_X11_clock (n0 : Nat) (a0 : Nat) (v1 : Int32) (μ : gw_M) : Option (Int32 × gw_M) := (F_X11_isIn n0 v1 0 2 μ).bind (fun (z_4 : Int32 × gw_M) => (if z_4.1 = 0 then some ((-1000000000), z_4.2) else (F_X11_clockAt n0 a0 v1 (z_4.2 (a0 + 1) 3) z_4.2).bind (fun (z_9 : Int32 × gw_M) => some (z_9.1, z_9.2))))
theorem ok_X11_clock {l : Launch} {x : gw_C} {d : Nat} {S : gw_S} {Q : Option Value → gw_S → gw_M → Prop} {v1 : Int32} {a0 : Nat} {n0 : Nat} {μ : gw_M} {r μ'} (hS0 : gw_sh S 11 a0) (h : F_X11_clock n0 a0 v1 μ = some (r, μ')) (hq : Q (some (.int r)) S μ') : gw_ok l x (d + 3) sgX11_clock 0 0 [.ref a0, .int v1] S μ Q := by
  refine gw_ok_of stX11_clock (lv0 := [.ref a0, .int v1]) (Nat.le_of_ble_eq_true rfl) rfl rfl ?_
  intro K hK
  have ka0_0 : gw_kd S a0 = 11 := (hS0 0 _ rfl).1
  have ra0_0_0 : gw_rf S a0 0 = a0 + 1 := (hS0 0 _ rfl).2.2 (0, 1) (by decide)
  have ka0_1 : gw_kd S (a0 + 1) = 12 := (hS0 1 _ rfl).1
  have la0_1 : gw_ln S (a0 + 1) = 20813 := (hS0 1 _ rfl).2.1
  unfold F_X11_clock at h
  refine hK _ _ _ _ _ _ _ ?_
  rw [fdX11_clock_0]
  simp only [gt_nil, true_and, eq_self, gt_iload_n, gt_ink, gw_nth, gt_iconst, gt_s1_0, gt_s2_0, gt_s3_0, gt_s4_0, gt_s1_1, gt_s2_1, gt_s3_1, gt_s4_1, gt_acpy, gt_if, gt_aload_n, gt_rfk, gt_get_r, gt_get_i, gt_get_z, gt_iaload, gt_v0, gt_v1, gt_v2, gt_v3, gt_v4, gt_v5, gt_goto, bkX11_clock_0, ka0_0, ra0_0_0, ka0_1, la0_1, (show Int32.toNatClampNeg 3 = 3 from rfl)]
  obtain ⟨⟨r_1, μ_2⟩, e_3, h⟩ := gw_bnd h
  refine ⟨rfl, 0, 0, Nat.le_refl _, Nat.le_refl _, ok_X11_isIn e_3 ?_⟩
  intro hbr_1
  dsimp only at h
  simp only [gt_nil, true_and, eq_self, gt_if, gt_aload_n, gt_rfk, gw_nth, gt_iload_n, gt_ink, gt_get_r, gt_get_i, gt_get_z, gt_iconst, gt_iaload, gt_v0, gt_v1, gt_v2, gt_v3, gt_v4, gt_v5, gt_goto, Option.toList, List.cons_append, List.nil_append, Nat.add_zero, ka0_0, ra0_0_0, ka0_1, la0_1, (show Int32.toNatClampNeg 3 = 3 from rfl)]
  refine ⟨fun c_5 => ?_, fun c_5 => ?_⟩
  · replace h := gw_ifp h c_5
    refine hK _ _ _ _ _ _ _ ?_
    rw [fdX11_clock_23]
    simp only [gt_nil, true_and, eq_self, gt_ldc_w, bkX11_clock_23, ka0_0, ra0_0_0, ka0_1, la0_1, (show Int32.toNatClampNeg 3 = 3 from rfl)]
    refine hK _ _ _ _ _ _ _ ?_
    rw [fdX11_clock_26]
    simp only [gt_nil, true_and, eq_self, gt_iret, gt_retz, bkX11_clock_26, ka0_0, ra0_0_0, ka0_1, la0_1, (show Int32.toNatClampNeg 3 = 3 from rfl)]
    cases h
    exact ⟨Nat.le_refl _, Nat.le_refl _, hq⟩
  · replace h := gw_ifn h c_5
    refine ⟨(⟨by decide, by decide⟩ : gw_in 3 20813), ?_⟩
    obtain ⟨⟨r_6, μ_7⟩, e_8, h⟩ := gw_bnd h
    refine ⟨rfl, 0, 0, Nat.le_refl _, Nat.le_refl _, ok_X11_clockAt hS0 e_8 ?_⟩
    dsimp only at h
    simp only [gt_nil, true_and, eq_self, gt_goto, Option.toList, List.cons_append, List.nil_append, Nat.add_zero, ka0_0, ra0_0_0, ka0_1, la0_1, (show Int32.toNatClampNeg 3 = 3 from rfl)]
    refine hK _ _ _ _ _ _ _ ?_
    rw [fdX11_clock_26]
    simp only [gt_nil, true_and, eq_self, gt_iret, gt_retz, bkX11_clock_26, ka0_0, ra0_0_0, ka0_1, la0_1, (show Int32.toNatClampNeg 3 = 3 from rfl)]
    cases h
    exact ⟨Nat.le_refl _, Nat.le_refl _, hq⟩
