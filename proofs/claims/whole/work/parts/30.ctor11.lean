def F_X11_init_297 (n0 : Nat) (a0 : Nat) : Nat → Int32 → gw_M → Option (gw_M)
  | 0, _, _ => none
  | n + 1, v1, μ => (if 9 ≤ v1 then gw_let (gw_cpy μ (a0 + 1) (a0 + 2) 0 0 20813) (fun (μ_2 : gw_M) => some μ_2) else (if 0 ≤ ((828 : Int32) + v1) ∧ ((828 : Int32) + v1).toNatClampNeg < 20813 then gw_let (gw_up μ (a0 + 1) ((828 : Int32) + v1).toNatClampNeg (-1)) (fun (μ_4 : gw_M) => gw_let (v1 + 1) (fun (w_5 : Int32) => F_X11_init_297 n0 a0 n w_5 μ_4)) else none))
def F_X11_init_269 (n0 : Nat) (a0 : Nat) : Nat → Int32 → gw_M → Option (gw_M)
  | 0, _, _ => none
  | n + 1, v1, μ => (if 10 ≤ v1 then F_X11_init_297 n0 a0 n0 0 μ else (if 0 ≤ ((802 : Int32) + v1) ∧ ((802 : Int32) + v1).toNatClampNeg < 20813 then gw_let (gw_up μ (a0 + 1) ((802 : Int32) + v1).toNatClampNeg ((11 : Int32) * v1)) (fun (μ_3 : gw_M) => gw_let (v1 + 1) (fun (w_4 : Int32) => F_X11_init_269 n0 a0 n w_4 μ_3)) else none))
def F_X11_init_218 (n0 : Nat) (a0 : Nat) : Nat → Int32 → gw_M → Option (gw_M)
  | 0, _, _ => none
  | n + 1, v1, μ => (if 16 ≤ v1 then F_X11_init_269 n0 a0 n0 0 μ else (if 0 ≤ ((706 : Int32) + ((2 : Int32) * v1)) ∧ ((706 : Int32) + ((2 : Int32) * v1)).toNatClampNeg < 20813 then gw_let (gw_up μ (a0 + 1) ((706 : Int32) + ((2 : Int32) * v1)).toNatClampNeg (-1)) (fun (μ_3 : gw_M) => (if 0 ≤ ((754 : Int32) + ((2 : Int32) * v1)) ∧ ((754 : Int32) + ((2 : Int32) * v1)).toNatClampNeg < 20813 then gw_let (gw_up μ_3 (a0 + 1) ((754 : Int32) + ((2 : Int32) * v1)).toNatClampNeg (-1)) (fun (μ_5 : gw_M) => (if 0 ≤ ((812 : Int32) + v1) ∧ ((812 : Int32) + v1).toNatClampNeg < 20813 then gw_let (gw_up μ_5 (a0 + 1) ((812 : Int32) + v1).toNatClampNeg (-1)) (fun (μ_7 : gw_M) => gw_let (v1 + 1) (fun (w_8 : Int32) => F_X11_init_218 n0 a0 n w_8 μ_7)) else none)) else none)) else none))
def F_X11_init_179 (rec120 : Int32 → gw_M → Option (gw_M)) (n0 : Nat) (a0 : Nat) : Nat → Int32 → Int32 → gw_M → Option (gw_M)
  | 0, _, _, _ => none
  | n + 1, v1, v2, μ => (if 3 ≤ v2 then gw_let (v1 + 1) (fun (w_2 : Int32) => rec120 w_2 μ) else (if 0 ≤ ((((58 : Int32) + ((162 : Int32) * v1)) + (143 : Int32)) + v2) ∧ ((((58 : Int32) + ((162 : Int32) * v1)) + (143 : Int32)) + v2).toNatClampNeg < 20813 then gw_let (gw_up μ (a0 + 1) ((((58 : Int32) + ((162 : Int32) * v1)) + (143 : Int32)) + v2).toNatClampNeg (-1)) (fun (μ_4 : gw_M) => gw_let (v2 + 1) (fun (w_5 : Int32) => F_X11_init_179 rec120 n0 a0 n v1 w_5 μ_4)) else none))
def F_X11_init_144 (rec120 : Int32 → gw_M → Option (gw_M)) (n0 : Nat) (a0 : Nat) : Nat → Int32 → Int32 → gw_M → Option (gw_M)
  | 0, _, _, _ => none
  | n + 1, v1, v2, μ => (if 32 ≤ v2 then F_X11_init_179 rec120 n0 a0 n0 v1 0 μ else (if 0 ≤ ((((58 : Int32) + ((162 : Int32) * v1)) + (79 : Int32)) + ((2 : Int32) * v2)) ∧ ((((58 : Int32) + ((162 : Int32) * v1)) + (79 : Int32)) + ((2 : Int32) * v2)).toNatClampNeg < 20813 then gw_let (gw_up μ (a0 + 1) ((((58 : Int32) + ((162 : Int32) * v1)) + (79 : Int32)) + ((2 : Int32) * v2)).toNatClampNeg (-1)) (fun (μ_3 : gw_M) => gw_let (v2 + 1) (fun (w_4 : Int32) => F_X11_init_144 rec120 n0 a0 n v1 w_4 μ_3)) else none))
def F_X11_init_120 (n0 : Nat) (a0 : Nat) : Nat → Int32 → gw_M → Option (gw_M)
  | 0, _, _ => none
  | n + 1, v1, μ => (if 4 ≤ v1 then F_X11_init_218 n0 a0 n0 0 μ else (if 0 ≤ (((58 : Int32) + ((162 : Int32) * v1)) + (3 : Int32)) ∧ (((58 : Int32) + ((162 : Int32) * v1)) + (3 : Int32)).toNatClampNeg < 20813 then gw_let (gw_up μ (a0 + 1) (((58 : Int32) + ((162 : Int32) * v1)) + (3 : Int32)).toNatClampNeg 16) (fun (μ_3 : gw_M) => F_X11_init_144 (F_X11_init_120 n0 a0 n) n0 a0 n0 v1 0 μ_3) else none))
theorem B_X11_init_297 {l : Launch} {x : gw_C} {d : Nat} {S : gw_S} {Q : Option Value → gw_S → gw_M → Prop} {K : Nat → gw_Kt} {mc ms cc ss : Nat} (hcc : cc ≤ mc) (hss : ss ≤ ms) (hK : gw_cl l x (d + 2) mc ms bsX11_init Q K) {a0 : Nat} (hS0 : gw_sh S 11 a0) {n0 : Nat} : ∀ {n : Nat} {v1} {u2 : Value} {μ : gw_M} {μ'}, F_X11_init_297 n0 a0 n v1 μ = some μ' → Q none S μ' → K 297 [.ref a0, .int v1, u2] [] S μ cc ss := by
  have ka0_0 : gw_kd S a0 = 11 := (hS0 0 _ rfl).1
  have ra0_0_0 : gw_rf S a0 0 = a0 + 1 := (hS0 0 _ rfl).2.2 (0, 1) (by decide)
  have ra0_0_1 : gw_rf S a0 1 = a0 + 2 := (hS0 0 _ rfl).2.2 (1, 2) (by decide)
  have ka0_1 : gw_kd S (a0 + 1) = 12 := (hS0 1 _ rfl).1
  have la0_1 : gw_ln S (a0 + 1) = 20813 := (hS0 1 _ rfl).2.1
  have ka0_2 : gw_kd S (a0 + 2) = 12 := (hS0 2 _ rfl).1
  have la0_2 : gw_ln S (a0 + 2) = 20813 := (hS0 2 _ rfl).2.1
  intro n
  induction n with
  | zero => intro v1 u2 μ μ' h hq; simp [F_X11_init_297] at h
  | succ n ih =>
    intro v1 u2 μ μ' h hq
    simp only [F_X11_init_297] at h
    refine hK _ _ _ _ _ _ _ ?_
    rw [fdX11_init_297]
    simp only [gt_nil, true_and, eq_self, gt_iload_n, gt_ink, gw_nth, gt_bipush, gt_icmp, gt_aload_n, gt_rfk, gt_get_r, gt_get_i, gt_get_z, gt_sipush, gt_iadd, gt_iconst, gt_iastore, gt_iinc, gw_set, gt_goto, bkX11_init_297, ka0_0, ra0_0_0, ra0_0_1, ka0_1, la0_1, ka0_2, la0_2]
    refine ⟨fun c_1 => ?_, fun c_1 => ?_⟩
    · replace h := gw_ifp2 (gw_c2_ge _ _) h c_1
      refine hK _ _ _ _ _ _ _ ?_
      rw [fdX11_init_320]
      simp only [gt_nil, true_and, eq_self, gt_aload_n, gt_rfk, gw_nth, gt_get_r, gt_get_i, gt_get_z, gt_s1_0, gt_s2_0, gt_s3_0, gt_s4_0, gt_s1_1, gt_s2_1, gt_s3_1, gt_s4_1, gt_acpy, gt_vret, bkX11_init_320, ka0_0, ra0_0_0, ra0_0_1, ka0_1, la0_1, ka0_2, la0_2]
      obtain ⟨μ_2, hμ_2, h⟩ := gw_lt h
      refine ⟨rfl, 0, 0, hcc, hss, ok_X11_copy (by omega) ((hS0 1 _ rfl).1) ((hS0 1 _ rfl).2.1) ((hS0 2 _ rfl).1) ((hS0 2 _ rfl).2.1) ?_⟩
      rw [← hμ_2]
      simp only [gt_nil, true_and, eq_self, gt_vret, Option.toList, List.cons_append, List.nil_append, Nat.add_zero, ka0_0, ra0_0_0, ra0_0_1, ka0_1, la0_1, ka0_2, la0_2]
      obtain rfl := gw_inj1 h
      exact ⟨hcc, hss, hq⟩
    · replace h := gw_ifn2 (gw_c2_ge _ _) h c_1
      obtain ⟨c_3, h⟩ := gw_ife h
      refine ⟨c_3, ?_⟩
      obtain ⟨μ_4, hμ_4, h⟩ := gw_lt h
      try rw [← hμ_4]
      obtain ⟨w_5, hw_5, h⟩ := gw_lt h
      try rw [← hw_5]
      exact ih h hq
theorem B_X11_init_269 {l : Launch} {x : gw_C} {d : Nat} {S : gw_S} {Q : Option Value → gw_S → gw_M → Prop} {K : Nat → gw_Kt} {mc ms cc ss : Nat} (hcc : cc ≤ mc) (hss : ss ≤ ms) (hK : gw_cl l x (d + 2) mc ms bsX11_init Q K) {a0 : Nat} (hS0 : gw_sh S 11 a0) {n0 : Nat} : ∀ {n : Nat} {v1} {u2 : Value} {μ : gw_M} {μ'}, F_X11_init_269 n0 a0 n v1 μ = some μ' → Q none S μ' → K 269 [.ref a0, .int v1, u2] [] S μ cc ss := by
  have ka0_0 : gw_kd S a0 = 11 := (hS0 0 _ rfl).1
  have ra0_0_0 : gw_rf S a0 0 = a0 + 1 := (hS0 0 _ rfl).2.2 (0, 1) (by decide)
  have ka0_1 : gw_kd S (a0 + 1) = 12 := (hS0 1 _ rfl).1
  have la0_1 : gw_ln S (a0 + 1) = 20813 := (hS0 1 _ rfl).2.1
  intro n
  induction n with
  | zero => intro v1 u2 μ μ' h hq; simp [F_X11_init_269] at h
  | succ n ih =>
    intro v1 u2 μ μ' h hq
    simp only [F_X11_init_269] at h
    refine hK _ _ _ _ _ _ _ ?_
    rw [fdX11_init_269]
    simp only [gt_nil, true_and, eq_self, gt_iload_n, gt_ink, gw_nth, gt_bipush, gt_icmp, gt_aload_n, gt_rfk, gt_get_r, gt_get_i, gt_get_z, gt_sipush, gt_iadd, gt_imul, gt_iastore, gt_iinc, gw_set, gt_goto, bkX11_init_269, ka0_0, ra0_0_0, ka0_1, la0_1]
    refine ⟨fun c_1 => ?_, fun c_1 => ?_⟩
    · replace h := gw_ifp2 (gw_c2_ge _ _) h c_1
      refine hK _ _ _ _ _ _ _ ?_
      rw [fdX11_init_295]
      simp only [gt_nil, true_and, eq_self, gt_iconst, gt_istore_n, gw_set, bkX11_init_295, ka0_0, ra0_0_0, ka0_1, la0_1]
      exact B_X11_init_297 hcc hss hK hS0 h hq
    · replace h := gw_ifn2 (gw_c2_ge _ _) h c_1
      obtain ⟨c_2, h⟩ := gw_ife h
      refine ⟨c_2, ?_⟩
      obtain ⟨μ_3, hμ_3, h⟩ := gw_lt h
      try rw [← hμ_3]
      obtain ⟨w_4, hw_4, h⟩ := gw_lt h
      try rw [← hw_4]
      exact ih h hq
theorem B_X11_init_218 {l : Launch} {x : gw_C} {d : Nat} {S : gw_S} {Q : Option Value → gw_S → gw_M → Prop} {K : Nat → gw_Kt} {mc ms cc ss : Nat} (hcc : cc ≤ mc) (hss : ss ≤ ms) (hK : gw_cl l x (d + 2) mc ms bsX11_init Q K) {a0 : Nat} (hS0 : gw_sh S 11 a0) {n0 : Nat} : ∀ {n : Nat} {v1} {u2 : Value} {μ : gw_M} {μ'}, F_X11_init_218 n0 a0 n v1 μ = some μ' → Q none S μ' → K 218 [.ref a0, .int v1, u2] [] S μ cc ss := by
  have ka0_0 : gw_kd S a0 = 11 := (hS0 0 _ rfl).1
  have ra0_0_0 : gw_rf S a0 0 = a0 + 1 := (hS0 0 _ rfl).2.2 (0, 1) (by decide)
  have ka0_1 : gw_kd S (a0 + 1) = 12 := (hS0 1 _ rfl).1
  have la0_1 : gw_ln S (a0 + 1) = 20813 := (hS0 1 _ rfl).2.1
  intro n
  induction n with
  | zero => intro v1 u2 μ μ' h hq; simp [F_X11_init_218] at h
  | succ n ih =>
    intro v1 u2 μ μ' h hq
    simp only [F_X11_init_218] at h
    refine hK _ _ _ _ _ _ _ ?_
    rw [fdX11_init_218]
    simp only [gt_nil, true_and, eq_self, gt_iload_n, gt_ink, gw_nth, gt_bipush, gt_icmp, gt_aload_n, gt_rfk, gt_get_r, gt_get_i, gt_get_z, gt_sipush, gt_iconst, gt_imul, gt_iadd, gt_iastore, gt_iinc, gw_set, gt_goto, bkX11_init_218, ka0_0, ra0_0_0, ka0_1, la0_1]
    refine ⟨fun c_1 => ?_, fun c_1 => ?_⟩
    · replace h := gw_ifp2 (gw_c2_ge _ _) h c_1
      refine hK _ _ _ _ _ _ _ ?_
      rw [fdX11_init_267]
      simp only [gt_nil, true_and, eq_self, gt_iconst, gt_istore_n, gw_set, bkX11_init_267, ka0_0, ra0_0_0, ka0_1, la0_1]
      exact B_X11_init_269 hcc hss hK hS0 h hq
    · replace h := gw_ifn2 (gw_c2_ge _ _) h c_1
      obtain ⟨c_2, h⟩ := gw_ife h
      refine ⟨c_2, ?_⟩
      obtain ⟨μ_3, hμ_3, h⟩ := gw_lt h
      try rw [← hμ_3]
      obtain ⟨c_4, h⟩ := gw_ife h
      refine ⟨c_4, ?_⟩
      obtain ⟨μ_5, hμ_5, h⟩ := gw_lt h
      try rw [← hμ_5]
      obtain ⟨c_6, h⟩ := gw_ife h
      refine ⟨c_6, ?_⟩
      obtain ⟨μ_7, hμ_7, h⟩ := gw_lt h
      try rw [← hμ_7]
      obtain ⟨w_8, hw_8, h⟩ := gw_lt h
      try rw [← hw_8]
      exact ih h hq
theorem B_X11_init_179 {l : Launch} {x : gw_C} {d : Nat} {S : gw_S} {Q : Option Value → gw_S → gw_M → Prop} {K : Nat → gw_Kt} {mc ms cc ss : Nat} (hcc : cc ≤ mc) (hss : ss ≤ ms) (hK : gw_cl l x (d + 2) mc ms bsX11_init Q K) {a0 : Nat} (hS0 : gw_sh S 11 a0) {rec120 : Int32 → gw_M → Option (gw_M)} (hrec120 : ∀ {v1} {u2 : Value} {μ : gw_M} {μ'}, rec120 v1 μ = some μ' → Q none S μ' → K 120 [.ref a0, .int v1, u2] [] S μ cc ss) {n0 : Nat} : ∀ {n : Nat} {v1 v2} {μ : gw_M} {μ'}, F_X11_init_179 rec120 n0 a0 n v1 v2 μ = some μ' → Q none S μ' → K 179 [.ref a0, .int v1, .int v2] [] S μ cc ss := by
  have ka0_0 : gw_kd S a0 = 11 := (hS0 0 _ rfl).1
  have ra0_0_0 : gw_rf S a0 0 = a0 + 1 := (hS0 0 _ rfl).2.2 (0, 1) (by decide)
  have ka0_1 : gw_kd S (a0 + 1) = 12 := (hS0 1 _ rfl).1
  have la0_1 : gw_ln S (a0 + 1) = 20813 := (hS0 1 _ rfl).2.1
  intro n
  induction n with
  | zero => intro v1 v2 μ μ' h hq; simp [F_X11_init_179] at h
  | succ n ih =>
    intro v1 v2 μ μ' h hq
    simp only [F_X11_init_179] at h
    refine hK _ _ _ _ _ _ _ ?_
    rw [fdX11_init_179]
    simp only [gt_nil, true_and, eq_self, gt_iload_n, gt_ink, gw_nth, gt_iconst, gt_icmp, gt_aload_n, gt_rfk, gt_get_r, gt_get_i, gt_get_z, gt_bipush, gt_sipush, gt_imul, gt_iadd, gt_iastore, gt_iinc, gw_set, gt_goto, bkX11_init_179, ka0_0, ra0_0_0, ka0_1, la0_1]
    refine ⟨fun c_1 => ?_, fun c_1 => ?_⟩
    · replace h := gw_ifp2 (gw_c2_ge _ _) h c_1
      refine hK _ _ _ _ _ _ _ ?_
      rw [fdX11_init_210]
      simp only [gt_nil, true_and, eq_self, gt_iinc, gt_ink, gw_nth, gw_set, gt_goto, bkX11_init_210, ka0_0, ra0_0_0, ka0_1, la0_1]
      obtain ⟨w_2, hw_2, h⟩ := gw_lt h
      try rw [← hw_2]
      exact hrec120 h hq
    · replace h := gw_ifn2 (gw_c2_ge _ _) h c_1
      obtain ⟨c_3, h⟩ := gw_ife h
      refine ⟨c_3, ?_⟩
      obtain ⟨μ_4, hμ_4, h⟩ := gw_lt h
      try rw [← hμ_4]
      obtain ⟨w_5, hw_5, h⟩ := gw_lt h
      try rw [← hw_5]
      exact ih h hq
theorem B_X11_init_144 {l : Launch} {x : gw_C} {d : Nat} {S : gw_S} {Q : Option Value → gw_S → gw_M → Prop} {K : Nat → gw_Kt} {mc ms cc ss : Nat} (hcc : cc ≤ mc) (hss : ss ≤ ms) (hK : gw_cl l x (d + 2) mc ms bsX11_init Q K) {a0 : Nat} (hS0 : gw_sh S 11 a0) {rec120 : Int32 → gw_M → Option (gw_M)} (hrec120 : ∀ {v1} {u2 : Value} {μ : gw_M} {μ'}, rec120 v1 μ = some μ' → Q none S μ' → K 120 [.ref a0, .int v1, u2] [] S μ cc ss) {n0 : Nat} : ∀ {n : Nat} {v1 v2} {μ : gw_M} {μ'}, F_X11_init_144 rec120 n0 a0 n v1 v2 μ = some μ' → Q none S μ' → K 144 [.ref a0, .int v1, .int v2] [] S μ cc ss := by
  have ka0_0 : gw_kd S a0 = 11 := (hS0 0 _ rfl).1
  have ra0_0_0 : gw_rf S a0 0 = a0 + 1 := (hS0 0 _ rfl).2.2 (0, 1) (by decide)
  have ka0_1 : gw_kd S (a0 + 1) = 12 := (hS0 1 _ rfl).1
  have la0_1 : gw_ln S (a0 + 1) = 20813 := (hS0 1 _ rfl).2.1
  intro n
  induction n with
  | zero => intro v1 v2 μ μ' h hq; simp [F_X11_init_144] at h
  | succ n ih =>
    intro v1 v2 μ μ' h hq
    simp only [F_X11_init_144] at h
    refine hK _ _ _ _ _ _ _ ?_
    rw [fdX11_init_144]
    simp only [gt_nil, true_and, eq_self, gt_iload_n, gt_ink, gw_nth, gt_bipush, gt_icmp, gt_aload_n, gt_rfk, gt_get_r, gt_get_i, gt_get_z, gt_sipush, gt_imul, gt_iadd, gt_iconst, gt_iastore, gt_iinc, gw_set, gt_goto, bkX11_init_144, ka0_0, ra0_0_0, ka0_1, la0_1]
    refine ⟨fun c_1 => ?_, fun c_1 => ?_⟩
    · replace h := gw_ifp2 (gw_c2_ge _ _) h c_1
      refine hK _ _ _ _ _ _ _ ?_
      rw [fdX11_init_177]
      simp only [gt_nil, true_and, eq_self, gt_iconst, gt_istore_n, gw_set, bkX11_init_177, ka0_0, ra0_0_0, ka0_1, la0_1]
      exact B_X11_init_179 hcc hss hK hS0 hrec120 h hq
    · replace h := gw_ifn2 (gw_c2_ge _ _) h c_1
      obtain ⟨c_2, h⟩ := gw_ife h
      refine ⟨c_2, ?_⟩
      obtain ⟨μ_3, hμ_3, h⟩ := gw_lt h
      try rw [← hμ_3]
      obtain ⟨w_4, hw_4, h⟩ := gw_lt h
      try rw [← hw_4]
      exact ih h hq
theorem B_X11_init_120 {l : Launch} {x : gw_C} {d : Nat} {S : gw_S} {Q : Option Value → gw_S → gw_M → Prop} {K : Nat → gw_Kt} {mc ms cc ss : Nat} (hcc : cc ≤ mc) (hss : ss ≤ ms) (hK : gw_cl l x (d + 2) mc ms bsX11_init Q K) {a0 : Nat} (hS0 : gw_sh S 11 a0) {n0 : Nat} : ∀ {n : Nat} {v1} {u2 : Value} {μ : gw_M} {μ'}, F_X11_init_120 n0 a0 n v1 μ = some μ' → Q none S μ' → K 120 [.ref a0, .int v1, u2] [] S μ cc ss := by
  have ka0_0 : gw_kd S a0 = 11 := (hS0 0 _ rfl).1
  have ra0_0_0 : gw_rf S a0 0 = a0 + 1 := (hS0 0 _ rfl).2.2 (0, 1) (by decide)
  have ka0_1 : gw_kd S (a0 + 1) = 12 := (hS0 1 _ rfl).1
  have la0_1 : gw_ln S (a0 + 1) = 20813 := (hS0 1 _ rfl).2.1
  intro n
  induction n with
  | zero => intro v1 u2 μ μ' h hq; simp [F_X11_init_120] at h
  | succ n ih =>
    intro v1 u2 μ μ' h hq
    simp only [F_X11_init_120] at h
    refine hK _ _ _ _ _ _ _ ?_
    rw [fdX11_init_120]
    simp only [gt_nil, true_and, eq_self, gt_iload_n, gt_ink, gw_nth, gt_iconst, gt_icmp, gt_aload_n, gt_rfk, gt_get_r, gt_get_i, gt_get_z, gt_bipush, gt_sipush, gt_imul, gt_iadd, gt_iastore, gt_istore_n, gw_set, bkX11_init_120, ka0_0, ra0_0_0, ka0_1, la0_1]
    refine ⟨fun c_1 => ?_, fun c_1 => ?_⟩
    · replace h := gw_ifp2 (gw_c2_ge _ _) h c_1
      refine hK _ _ _ _ _ _ _ ?_
      rw [fdX11_init_216]
      simp only [gt_nil, true_and, eq_self, gt_iconst, gt_istore_n, gw_set, bkX11_init_216, ka0_0, ra0_0_0, ka0_1, la0_1]
      exact B_X11_init_218 hcc hss hK hS0 h hq
    · replace h := gw_ifn2 (gw_c2_ge _ _) h c_1
      obtain ⟨c_2, h⟩ := gw_ife h
      refine ⟨c_2, ?_⟩
      obtain ⟨μ_3, hμ_3, h⟩ := gw_lt h
      try rw [← hμ_3]
      exact B_X11_init_144 hcc hss hK hS0 ih h hq
theorem pg_sh {S0 S : gw_S} {μ0 μ : gw_M} {c a0 m : Nat} {em : List Nat} {R : Nat → Nat} {I : Nat → Int32} (h : gw_pg S0 μ0 c a0 m [] em R I S μ) {refs : List (Nat × Nat)} (hm : (gw_lay c).length = m + 1) (h0 : (gw_lay c)[0]? = some (c, 0, refs)) (hR : ∀ r ∈ refs, R r.1 = a0 + r.2) : gw_sh S c a0 := by
  obtain ⟨g1, g2, g3, g4, g5, g6, g7⟩ := h
  intro k q hq
  have hk : k < m + 1 := by rw [← hm]; exact (List.getElem?_eq_some_iff.mp hq).1
  by_cases hk0 : k = 0
  · subst hk0
    rw [h0] at hq
    cases hq
    exact ⟨g2, g7, fun r hr => (g3 _).trans (hR r hr)⟩
  · obtain ⟨z1, z2, z3⟩ := g5 k (by omega) (by omega)
    exact ⟨(z1 q hq).1, (z1 q hq).2, z2 (by simp) q hq⟩
def gw_m11 (μ : gw_M) (a0 : Nat) : gw_M := (gw_up (gw_up (gw_up (gw_up (gw_up (gw_up (gw_up (gw_up (gw_up (gw_row (gw_row (gw_row (gw_row (gw_row μ (a0 + 1) (fun _ => 0)) (a0 + 2) (fun _ => 0)) (a0 + 3) (fun _ => 0)) (a0 + 4) (fun _ => 0)) (a0 + 5) (fun _ => 0)) (a0 + 1) 2 (1)) (a0 + 1) 4 (6)) (a0 + 1) 13 (-1)) (a0 + 1) 14 (-1)) (a0 + 1) 16 (-1)) (a0 + 1) 19 (-1)) (a0 + 1) 20 (-1)) (a0 + 1) 56 (-1)) (a0 + 1) 57 (-1))
set_option maxRecDepth 20000 in
theorem ctor_X11 {l : Launch} {x : gw_C} {d a0 n0 : Nat} {S : gw_S} {μ μ' : gw_M} {Q : Option Value → gw_S → gw_M → Prop} (hn : gw_nn S = a0) (hk : gw_kd S a0 = 11) (hr : ∀ j, gw_rf S a0 j = 0) (hm : ∀ j, μ a0 j = 0) (hl : gw_ln S a0 = 0) (h1 : ¬ a0 = 0) (h : F_X11_init_120 n0 a0 n0 0 (gw_m11 μ a0) = some μ') (hq : ∀ S', gw_nn S' = a0 + 5 → gw_sh S' 11 a0 → (∀ b, b < a0 → gw_kd S' b = gw_kd S b ∧ gw_ln S' b = gw_ln S b ∧ ∀ j, gw_rf S' b j = gw_rf S b j) → Q none S' μ') : gw_ok l x (d + 3) sgX11_init 5 42665 [.ref a0] S μ Q := by
  refine gw_ok_of stX11_init (lv0 := [.ref a0, .retAddr 0, .retAddr 0]) (Nat.le_of_ble_eq_true rfl) rfl rfl ?_
  intro K hK
  have hp := pg_start [] [1, 2, 3, 4, 5] hn hk hr hm hl
  refine hK _ _ _ _ _ _ _ ?_
  rw [fdX11_init_0]
  simp only [bkX11_init_0, hn, gt_nil, gt_aload_n, gt_rfk, gw_nth, gw_set, gt_new, gt_newa, gt_anewa, gt_obj, gt_sp0, gt_sp1, gt_put_r, gt_put_i, gt_dup_i, gt_dup_r, gt_iconst, gt_bipush, gt_istore_n, gt_iastore, gt_get_r, gt_s2_0, gt_vret, nn_new, nn_sr, Nat.add_assoc, Nat.reduceAdd, Option.toList, List.cons_append, List.nil_append, Nat.add_zero, Nat.zero_add, gt_sipush, (show Int32.toNatClampNeg 0 = 0 from rfl), (show Int32.toNatClampNeg 1 = 1 from rfl), (show Int32.toNatClampNeg 2 = 2 from rfl), (show Int32.toNatClampNeg 4 = 4 from rfl), (show Int32.toNatClampNeg 6 = 6 from rfl), (show Int32.toNatClampNeg 13 = 13 from rfl), (show Int32.toNatClampNeg 14 = 14 from rfl), (show Int32.toNatClampNeg 16 = 16 from rfl), (show Int32.toNatClampNeg 19 = 19 from rfl), (show Int32.toNatClampNeg 20 = 20 from rfl), (show Int32.toNatClampNeg 32 = 32 from rfl), (show Int32.toNatClampNeg 56 = 56 from rfl), (show Int32.toNatClampNeg 57 = 57 from rfl), (show Int32.toNatClampNeg 991 = 991 from rfl), (show Int32.toNatClampNeg 20813 = 20813 from rfl)]
  refine ⟨h1, ?_⟩
  refine ⟨⟨by decide, by decide⟩, by decide, by decide, ?_⟩
  replace hp := pg_arr2 hp 12 20813 1 rfl rfl (Or.inr rfl) (Or.inl (by decide))
  refine ⟨hp.2.1, by omega, ?_⟩
  replace hp := pg_ref hp 0 (a0 + 1)
  refine ⟨⟨by decide, by decide⟩, by decide, by decide, ?_⟩
  replace hp := pg_arr2 hp 12 20813 2 rfl rfl (Or.inr rfl) (Or.inl (by decide))
  refine ⟨hp.2.1, by omega, ?_⟩
  replace hp := pg_ref hp 1 (a0 + 2)
  refine ⟨⟨by decide, by decide⟩, by decide, by decide, ?_⟩
  replace hp := pg_arr2 hp 12 991 3 rfl rfl (Or.inr rfl) (Or.inl (by decide))
  refine ⟨hp.2.1, by omega, ?_⟩
  replace hp := pg_ref hp 2 (a0 + 3)
  refine ⟨⟨by decide, by decide⟩, by decide, by decide, ?_⟩
  replace hp := pg_arr2 hp 12 16 4 rfl rfl (Or.inr rfl) (Or.inl (by decide))
  refine ⟨hp.2.1, by omega, ?_⟩
  replace hp := pg_ref hp 3 (a0 + 4)
  refine ⟨⟨by decide, by decide⟩, by decide, by decide, ?_⟩
  replace hp := pg_arr2 hp 12 32 5 rfl rfl (Or.inr rfl) (Or.inl (by decide))
  refine ⟨hp.2.1, by omega, ?_⟩
  replace hp := pg_ref hp 4 (a0 + 5)
  refine ⟨hp.2.1, ?_⟩
  rw [show gw_rf _ a0 0 = a0 + 1 from hp.2.2.1 0]
  refine ⟨(pg_kd hp 1 rfl (by decide) (by decide)).1, by rw [(pg_kd hp 1 rfl (by decide) (by decide)).2]; exact ⟨by decide, by decide⟩, ?_⟩
  replace hp := pg_ex hp (μ' := gw_up _ (a0 + 1) 2 (1)) 1 (by decide) (by decide) (fun b hb jj => gw_up_ne hb jj)
  refine ⟨hp.2.1, ?_⟩
  refine ⟨(pg_kd hp 1 rfl (by decide) (by decide)).1, by rw [(pg_kd hp 1 rfl (by decide) (by decide)).2]; exact ⟨by decide, by decide⟩, ?_⟩
  replace hp := pg_ex hp (μ' := gw_up _ (a0 + 1) 4 (6)) 1 (by decide) (by decide) (fun b hb jj => gw_up_ne hb jj)
  refine ⟨hp.2.1, ?_⟩
  refine ⟨(pg_kd hp 1 rfl (by decide) (by decide)).1, by rw [(pg_kd hp 1 rfl (by decide) (by decide)).2]; exact ⟨by decide, by decide⟩, ?_⟩
  replace hp := pg_ex hp (μ' := gw_up _ (a0 + 1) 13 (-1)) 1 (by decide) (by decide) (fun b hb jj => gw_up_ne hb jj)
  refine ⟨hp.2.1, ?_⟩
  refine ⟨(pg_kd hp 1 rfl (by decide) (by decide)).1, by rw [(pg_kd hp 1 rfl (by decide) (by decide)).2]; exact ⟨by decide, by decide⟩, ?_⟩
  replace hp := pg_ex hp (μ' := gw_up _ (a0 + 1) 14 (-1)) 1 (by decide) (by decide) (fun b hb jj => gw_up_ne hb jj)
  refine ⟨hp.2.1, ?_⟩
  refine ⟨(pg_kd hp 1 rfl (by decide) (by decide)).1, by rw [(pg_kd hp 1 rfl (by decide) (by decide)).2]; exact ⟨by decide, by decide⟩, ?_⟩
  replace hp := pg_ex hp (μ' := gw_up _ (a0 + 1) 16 (-1)) 1 (by decide) (by decide) (fun b hb jj => gw_up_ne hb jj)
  refine ⟨hp.2.1, ?_⟩
  refine ⟨(pg_kd hp 1 rfl (by decide) (by decide)).1, by rw [(pg_kd hp 1 rfl (by decide) (by decide)).2]; exact ⟨by decide, by decide⟩, ?_⟩
  replace hp := pg_ex hp (μ' := gw_up _ (a0 + 1) 19 (-1)) 1 (by decide) (by decide) (fun b hb jj => gw_up_ne hb jj)
  refine ⟨hp.2.1, ?_⟩
  refine ⟨(pg_kd hp 1 rfl (by decide) (by decide)).1, by rw [(pg_kd hp 1 rfl (by decide) (by decide)).2]; exact ⟨by decide, by decide⟩, ?_⟩
  replace hp := pg_ex hp (μ' := gw_up _ (a0 + 1) 20 (-1)) 1 (by decide) (by decide) (fun b hb jj => gw_up_ne hb jj)
  refine ⟨hp.2.1, ?_⟩
  refine ⟨(pg_kd hp 1 rfl (by decide) (by decide)).1, by rw [(pg_kd hp 1 rfl (by decide) (by decide)).2]; exact ⟨by decide, by decide⟩, ?_⟩
  replace hp := pg_ex hp (μ' := gw_up _ (a0 + 1) 56 (-1)) 1 (by decide) (by decide) (fun b hb jj => gw_up_ne hb jj)
  refine ⟨hp.2.1, ?_⟩
  refine ⟨(pg_kd hp 1 rfl (by decide) (by decide)).1, by rw [(pg_kd hp 1 rfl (by decide) (by decide)).2]; exact ⟨by decide, by decide⟩, ?_⟩
  replace hp := pg_ex hp (μ' := gw_up _ (a0 + 1) 57 (-1)) 1 (by decide) (by decide) (fun b hb jj => gw_up_ne hb jj)
  have hsh : gw_sh _ 11 a0 := pg_sh hp rfl rfl (by
    intro r hr
    simp only [List.mem_cons, List.not_mem_nil, or_false] at hr
    rcases hr with rfl | rfl | rfl | rfl | rfl <;> rfl)
  exact B_X11_init_120 (by decide) (by decide) hK hsh h (hq _ hp.1 hsh (fun b hb => ⟨(hp.2.2.2.2.2.1 b hb).1, (hp.2.2.2.2.2.1 b hb).2.1, (hp.2.2.2.2.2.1 b hb).2.2.1⟩))
