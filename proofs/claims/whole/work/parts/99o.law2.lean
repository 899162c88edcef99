/-! ===== the law: its cases ===== -/
def LC (x : gw_C) (K : Nat → gw_Kt) (A m i b cc ss L : Nat) (S : gw_S) (M : gw_M) : Prop := SH S A m ∧ R2 b S A m M M ∧ b + 8100 < 2 ^ 28 ∧ x.2.2.2.2.2.2.2.1 = L ∧ i + 4 < L ∧ L ≤ 2560 ∧ cc + 1640 ≤ 427204 ∧ ss + 22140 ≤ 7820637 ∧ NX K A m i b cc ss S
/-- a call with a long below it on the stack -/
def LV (l : Launch) (x : gw_C) (K : Nat → gw_Kt) (m : Nat) : Prop := ∀ (lv : List Value) (r : Int64) (S : gw_S) (μ : gw_M) (cc ss : Nat), gw_kd S m = 11 → cc ≤ 427204 → ss ≤ 7820637 → gw_ok l x 16 sgX11_share 0 0 [.ref m] S μ (fun r' S' μ' => K 2013 lv (r'.toList ++ [.long r]) S' μ' (cc + 0) (ss + 0)) → K 2010 lv [.ref m, .long r] S μ cc ss
section LAW2
variable {l : Launch} {x : gw_C} {K : Nat → gw_Kt} {A m i b cc ss L : Nat} {S : gw_S} {M : gw_M}
theorem lc_324 (hB : LB l x K) (h : LC x K A m i b cc ss L S M) : K 324 [.retAddr 1, .ref A, .ref m, .int (nI i)] [] S M cc ss := by
  obtain ⟨hS, hR, hb, hx, hi, hL, hcc, hss, hN⟩ := h
  exact hB bkL_324 324 _ _ _ _ _ _ ckL_324 (lw_n4 (PAI_of (pr_entry (n := 1000) (Nat.le_refl _) hS hR hb _ _ _ _)) (Nat.le_refl _) hS hx hi hL hcc hss hN)
theorem lc_377 (hB : LB l x K) (h : LC x K A m i b cc ss L S M) : K 377 [.retAddr 1, .ref A, .ref m, .int (nI i)] [] S M cc ss := by
  obtain ⟨hS, hR, hb, hx, hi, hL, hcc, hss, hN⟩ := h
  exact hB bkL_377 377 _ _ _ _ _ _ ckL_377 (lw_n2 (PAI_of (pr_clear (n := 1000) (Nat.le_refl _) hS hR hb _ _)) (Nat.le_refl _) hS hx hi hL hcc hss hN)
theorem lc_410 (hB : LB l x K) (h : LC x K A m i b cc ss L S M) : K 410 [.retAddr 1, .ref A, .ref m, .int (nI i)] [] S M cc ss := by
  obtain ⟨hS, hR, hb, hx, hi, hL, hcc, hss, hN⟩ := h
  exact hB bkL_410 410 _ _ _ _ _ _ ckL_410 (lw_n1 (PAI_of (pr_room (n := 1000) (Nat.le_refl _) hS hR hb _)) (Nat.le_refl _) hS hx hi hL hcc hss hN)
theorem lc_433 (hB : LB l x K) (h : LC x K A m i b cc ss L S M) : K 433 [.retAddr 1, .ref A, .ref m, .int (nI i)] [] S M cc ss := by
  obtain ⟨hS, hR, hb, hx, hi, hL, hcc, hss, hN⟩ := h
  exact hB bkL_433 433 _ _ _ _ _ _ ckL_433 (lw_n0 (PAI_of (pr_foldAhead (n := 1000) (Nat.le_refl _) hS hR hb)) (Nat.le_refl _) hS hx hi hL hcc hss hN)
theorem lc_446 (hB : LB l x K) (h : LC x K A m i b cc ss L S M) : K 446 [.retAddr 1, .ref A, .ref m, .int (nI i)] [] S M cc ss := by
  obtain ⟨hS, hR, hb, hx, hi, hL, hcc, hss, hN⟩ := h
  exact hB bkL_446 446 _ _ _ _ _ _ ckL_446 (lw_n0 (PAI_of (pr_join (n := 1000) (Nat.le_refl _) hS hR hb)) (Nat.le_refl _) hS hx hi hL hcc hss hN)
theorem lc_459 (hB : LB l x K) (h : LC x K A m i b cc ss L S M) : K 459 [.retAddr 1, .ref A, .ref m, .int (nI i)] [] S M cc ss := by
  obtain ⟨hS, hR, hb, hx, hi, hL, hcc, hss, hN⟩ := h
  exact hB bkL_459 459 _ _ _ _ _ _ ckL_459 (lw_n1 (PAI_of (pr_trapPlace (n := 1000) (Nat.le_refl _) hS hR hb _)) (Nat.le_refl _) hS hx hi hL hcc hss hN)
theorem lc_482 (hB : LB l x K) (h : LC x K A m i b cc ss L S M) : K 482 [.retAddr 1, .ref A, .ref m, .int (nI i)] [] S M cc ss := by
  obtain ⟨hS, hR, hb, hx, hi, hL, hcc, hss, hN⟩ := h
  exact hB bkL_482 482 _ _ _ _ _ _ ckL_482 (lw_n2 (PAI_of (pr_want (n := 1000) (Nat.le_refl _) hS hR hb _ _)) (Nat.le_refl _) hS hx hi hL hcc hss hN)
theorem lc_515 (hB : LB l x K) (h : LC x K A m i b cc ss L S M) : K 515 [.retAddr 1, .ref A, .ref m, .int (nI i)] [] S M cc ss := by
  obtain ⟨hS, hR, hb, hx, hi, hL, hcc, hss, hN⟩ := h
  exact hB bkL_515 515 _ _ _ _ _ _ ckL_515 (lw_n3 (PAI_of (pr_touch (n := 1000) (Nat.le_refl _) hS hR hb _ _ _)) (Nat.le_refl _) hS hx hi hL hcc hss hN)
theorem lc_558 (hB : LB l x K) (h : LC x K A m i b cc ss L S M) : K 558 [.retAddr 1, .ref A, .ref m, .int (nI i)] [] S M cc ss := by
  obtain ⟨hS, hR, hb, hx, hi, hL, hcc, hss, hN⟩ := h
  exact hB bkL_558 558 _ _ _ _ _ _ ckL_558 (lw_n1 (PAI_of (pr_event (n := 1000) (Nat.le_refl _) hS hR hb _)) (Nat.le_refl _) hS hx hi hL hcc hss hN)
theorem lc_581 (hB : LB l x K) (h : LC x K A m i b cc ss L S M) : K 581 [.retAddr 1, .ref A, .ref m, .int (nI i)] [] S M cc ss := by
  obtain ⟨hS, hR, hb, hx, hi, hL, hcc, hss, hN⟩ := h
  exact hB bkL_581 581 _ _ _ _ _ _ ckL_581 (lw_n0 (PAI_of (pr_enter (n := 1000) (Nat.le_refl _) hS hR hb)) (Nat.le_refl _) hS hx hi hL hcc hss hN)
theorem lc_594 (hB : LB l x K) (h : LC x K A m i b cc ss L S M) : K 594 [.retAddr 1, .ref A, .ref m, .int (nI i)] [] S M cc ss := by
  obtain ⟨hS, hR, hb, hx, hi, hL, hcc, hss, hN⟩ := h
  exact hB bkL_594 594 _ _ _ _ _ _ ckL_594 (lw_n2 (PAI_of (pr_send (n := 1000) (Nat.le_refl _) hS hR hb _ _)) (Nat.le_refl _) hS hx hi hL hcc hss hN)
theorem lc_676 (hB : LB l x K) (h : LC x K A m i b cc ss L S M) : K 676 [.retAddr 1, .ref A, .ref m, .int (nI i)] [] S M cc ss := by
  obtain ⟨hS, hR, hb, hx, hi, hL, hcc, hss, hN⟩ := h
  exact hB bkL_676 676 _ _ _ _ _ _ ckL_676 (lw_n0 (PAI_of (pr_finish (n := 1000) (Nat.le_refl _) hS hR hb)) (Nat.le_refl _) hS hx hi hL hcc hss hN)
theorem lc_689 (hB : LB l x K) (h : LC x K A m i b cc ss L S M) : K 689 [.retAddr 1, .ref A, .ref m, .int (nI i)] [] S M cc ss := by
  obtain ⟨hS, hR, hb, hx, hi, hL, hcc, hss, hN⟩ := h
  exact hB bkL_689 689 _ _ _ _ _ _ ckL_689 (lw_n1 (PAI_of (pr_hand (n := 1000) (Nat.le_refl _) hS hR hb _)) (Nat.le_refl _) hS hx hi hL hcc hss hN)
theorem lc_712 (hB : LB l x K) (h : LC x K A m i b cc ss L S M) : K 712 [.retAddr 1, .ref A, .ref m, .int (nI i)] [] S M cc ss := by
  obtain ⟨hS, hR, hb, hx, hi, hL, hcc, hss, hN⟩ := h
  exact hB bkL_712 712 _ _ _ _ _ _ ckL_712 (lw_n3 (PAI_of (pr_scale (n := 1000) (Nat.le_refl _) hS hR hb _ _ _)) (Nat.le_refl _) hS hx hi hL hcc hss hN)
theorem lc_755 (hB : LB l x K) (h : LC x K A m i b cc ss L S M) : K 755 [.retAddr 1, .ref A, .ref m, .int (nI i)] [] S M cc ss := by
  obtain ⟨hS, hR, hb, hx, hi, hL, hcc, hss, hN⟩ := h
  exact hB bkL_755 755 _ _ _ _ _ _ ckL_755 (lw_n3 (PAI_of (pr_timer (n := 1000) (Nat.le_refl _) hS hR hb _ _ _)) (Nat.le_refl _) hS hx hi hL hcc hss hN)
theorem lc_798 (hB : LB l x K) (h : LC x K A m i b cc ss L S M) : K 798 [.retAddr 1, .ref A, .ref m, .int (nI i)] [] S M cc ss := by
  obtain ⟨hS, hR, hb, hx, hi, hL, hcc, hss, hN⟩ := h
  exact hB bkL_798 798 _ _ _ _ _ _ ckL_798 (lw_n1 (PAI_of (pr_cancel (n := 1000) (Nat.le_refl _) hS hR hb _)) (Nat.le_refl _) hS hx hi hL hcc hss hN)
theorem lc_821 (hB : LB l x K) (h : LC x K A m i b cc ss L S M) : K 821 [.retAddr 1, .ref A, .ref m, .int (nI i)] [] S M cc ss := by
  obtain ⟨hS, hR, hb, hx, hi, hL, hcc, hss, hN⟩ := h
  exact hB bkL_821 821 _ _ _ _ _ _ ckL_821 (lw_n2 (PAI_of (pr_handler (n := 1000) (Nat.le_refl _) hS hR hb _ _)) (Nat.le_refl _) hS hx hi hL hcc hss hN)
theorem lc_854 (hB : LB l x K) (h : LC x K A m i b cc ss L S M) : K 854 [.retAddr 1, .ref A, .ref m, .int (nI i)] [] S M cc ss := by
  obtain ⟨hS, hR, hb, hx, hi, hL, hcc, hss, hN⟩ := h
  exact hB bkL_854 854 _ _ _ _ _ _ ckL_854 (lw_n1 (PAI_of (pr_slice (n := 1000) (Nat.le_refl _) hS hR hb _)) (Nat.le_refl _) hS hx hi hL hcc hss hN)
theorem lc_877 (hB : LB l x K) (h : LC x K A m i b cc ss L S M) : K 877 [.retAddr 1, .ref A, .ref m, .int (nI i)] [] S M cc ss := by
  obtain ⟨hS, hR, hb, hx, hi, hL, hcc, hss, hN⟩ := h
  exact hB bkL_877 877 _ _ _ _ _ _ ckL_877 (lw_n0 (PAI_of (pr_forget (n := 1000) (Nat.le_refl _) hS hR hb)) (Nat.le_refl _) hS hx hi hL hcc hss hN)
theorem lc_890 (hB : LB l x K) (h : LC x K A m i b cc ss L S M) : K 890 [.retAddr 1, .ref A, .ref m, .int (nI i)] [] S M cc ss := by
  obtain ⟨hS, hR, hb, hx, hi, hL, hcc, hss, hN⟩ := h
  exact hB bkL_890 890 _ _ _ _ _ _ ckL_890 (lw_n1 (PAI_of (pr_pass (n := 1000) (Nat.le_refl _) hS hR hb _)) (Nat.le_refl _) hS hx hi hL hcc hss hN)
theorem lc_913 (hB : LB l x K) (h : LC x K A m i b cc ss L S M) : K 913 [.retAddr 1, .ref A, .ref m, .int (nI i)] [] S M cc ss := by
  obtain ⟨hS, hR, hb, hx, hi, hL, hcc, hss, hN⟩ := h
  exact hB bkL_913 913 _ _ _ _ _ _ ckL_913 (lw_n4 (PAI_of (pr_act (n := 1000) (Nat.le_refl _) hS hR hb _ _ _ _)) (Nat.le_refl _) hS hx hi hL hcc hss hN)
theorem lc_966 (hB : LB l x K) (h : LC x K A m i b cc ss L S M) : K 966 [.retAddr 1, .ref A, .ref m, .int (nI i)] [] S M cc ss := by
  obtain ⟨hS, hR, hb, hx, hi, hL, hcc, hss, hN⟩ := h
  exact hB bkL_966 966 _ _ _ _ _ _ ckL_966 (lw_n1 (PAI_of (pr_wipe (n := 1000) (Nat.le_refl _) hS hR hb _)) (Nat.le_refl _) hS hx hi hL hcc hss hN)
theorem lc_989 (hB : LB l x K) (h : LC x K A m i b cc ss L S M) : K 989 [.retAddr 1, .ref A, .ref m, .int (nI i)] [] S M cc ss := by
  obtain ⟨hS, hR, hb, hx, hi, hL, hcc, hss, hN⟩ := h
  exact hB bkL_989 989 _ _ _ _ _ _ ckL_989 (lw_n1 (PAI_of (pr_run (n := 1000) (Nat.le_refl _) hS hR hb _)) (Nat.le_refl _) hS hx hi hL hcc hss hN)
theorem lc_1012 (hB : LB l x K) (h : LC x K A m i b cc ss L S M) : K 1012 [.retAddr 1, .ref A, .ref m, .int (nI i)] [] S M cc ss := by
  obtain ⟨hS, hR, hb, hx, hi, hL, hcc, hss, hN⟩ := h
  exact hB bkL_1012 1012 _ _ _ _ _ _ ckL_1012 (lw_n0 (PAI_of (pr_undo (n := 1000) (Nat.le_refl _) hS hR)) (Nat.zero_le _) hS hx hi hL hcc hss hN)
theorem lc_1025 (hB : LB l x K) (h : LC x K A m i b cc ss L S M) : K 1025 [.retAddr 1, .ref A, .ref m, .int (nI i)] [] S M cc ss := by
  obtain ⟨hS, hR, hb, hx, hi, hL, hcc, hss, hN⟩ := h
  exact hB bkL_1025 1025 _ _ _ _ _ _ ckL_1025 (lw_n1 (PAI_of (pr_is (n := 1000) (Nat.le_refl _) hS hR _)) (Nat.zero_le _) hS hx hi hL hcc hss hN)
theorem lc_1048 (hB : LB l x K) (h : LC x K A m i b cc ss L S M) : K 1048 [.retAddr 1, .ref A, .ref m, .int (nI i)] [] S M cc ss := by
  obtain ⟨hS, hR, hb, hx, hi, hL, hcc, hss, hN⟩ := h
  exact hB bkL_1048 1048 _ _ _ _ _ _ ckL_1048 (lw_n3 (PAI_of (pr_told (n := 1000) (Nat.le_refl _) hS hR _ _ _)) (Nat.zero_le _) hS hx hi hL hcc hss hN)
theorem lc_1091 (hB : LB l x K) (h : LC x K A m i b cc ss L S M) : K 1091 [.retAddr 1, .ref A, .ref m, .int (nI i)] [] S M cc ss := by
  obtain ⟨hS, hR, hb, hx, hi, hL, hcc, hss, hN⟩ := h
  exact hB bkL_1091 1091 _ _ _ _ _ _ ckL_1091 (lw_n1 (PAI_of (pr_folded (n := 1000) (Nat.le_refl _) hS hR _)) (Nat.zero_le _) hS hx hi hL hcc hss hN)
theorem lc_1114 (hB : LB l x K) (h : LC x K A m i b cc ss L S M) : K 1114 [.retAddr 1, .ref A, .ref m, .int (nI i)] [] S M cc ss := by
  obtain ⟨hS, hR, hb, hx, hi, hL, hcc, hss, hN⟩ := h
  exact hB bkL_1114 1114 _ _ _ _ _ _ ckL_1114 (lw_n1 (PAI_of (pr_frame (n := 1000) (Nat.le_refl _) hS hR _)) (Nat.zero_le _) hS hx hi hL hcc hss hN)
theorem lc_1137 (hB : LB l x K) (h : LC x K A m i b cc ss L S M) : K 1137 [.retAddr 1, .ref A, .ref m, .int (nI i)] [] S M cc ss := by
  obtain ⟨hS, hR, hb, hx, hi, hL, hcc, hss, hN⟩ := h
  exact hB bkL_1137 1137 _ _ _ _ _ _ ckL_1137 (lw_n1 (PAI_of (pr_handled (n := 1000) (Nat.le_refl _) hS hR _)) (Nat.zero_le _) hS hx hi hL hcc hss hN)
theorem lc_1160 (hB : LB l x K) (h : LC x K A m i b cc ss L S M) : K 1160 [.retAddr 1, .ref A, .ref m, .int (nI i)] [] S M cc ss := by
  obtain ⟨hS, hR, hb, hx, hi, hL, hcc, hss, hN⟩ := h
  exact hB bkL_1160 1160 _ _ _ _ _ _ ckL_1160 (lw_n1 (PAI_of (pr_stored (n := 1000) (Nat.le_refl _) hS hR _)) (Nat.zero_le _) hS hx hi hL hcc hss hN)
theorem lc_1183 (hB : LB l x K) (h : LC x K A m i b cc ss L S M) : K 1183 [.retAddr 1, .ref A, .ref m, .int (nI i)] [] S M cc ss := by
  obtain ⟨hS, hR, hb, hx, hi, hL, hcc, hss, hN⟩ := h
  exact hB bkL_1183 1183 _ _ _ _ _ _ ckL_1183 (lw_n1 (PAI_of (pr_backed (n := 1000) (Nat.le_refl _) hS hR _)) (Nat.zero_le _) hS hx hi hL hcc hss hN)
theorem lc_1206 (hB : LB l x K) (h : LC x K A m i b cc ss L S M) : K 1206 [.retAddr 1, .ref A, .ref m, .int (nI i)] [] S M cc ss := by
  obtain ⟨hS, hR, hb, hx, hi, hL, hcc, hss, hN⟩ := h
  exact hB bkL_1206 1206 _ _ _ _ _ _ ckL_1206 (lw_n0 (PAI_of (pr_copied (n := 1000) (Nat.le_refl _) hS hR)) (Nat.zero_le _) hS hx hi hL hcc hss hN)
theorem lc_1219 (hB : LB l x K) (h : LC x K A m i b cc ss L S M) : K 1219 [.retAddr 1, .ref A, .ref m, .int (nI i)] [] S M cc ss := by
  obtain ⟨hS, hR, hb, hx, hi, hL, hcc, hss, hN⟩ := h
  exact hB bkL_1219 1219 _ _ _ _ _ _ ckL_1219 (lw_n1 (PAI_of (pr_trapped (n := 1000) (Nat.le_refl _) hS hR _)) (Nat.zero_le _) hS hx hi hL hcc hss hN)
theorem lc_1242 (hB : LB l x K) (h : LC x K A m i b cc ss L S M) : K 1242 [.retAddr 1, .ref A, .ref m, .int (nI i)] [] S M cc ss := by
  obtain ⟨hS, hR, hb, hx, hi, hL, hcc, hss, hN⟩ := h
  exact hB bkL_1242 1242 _ _ _ _ _ _ ckL_1242 (lw_n1 (PAI_of (pr_heard (n := 1000) (Nat.le_refl _) hS hR _)) (Nat.zero_le _) hS hx hi hL hcc hss hN)
theorem lc_1265 (hB : LB l x K) (h : LC x K A m i b cc ss L S M) : K 1265 [.retAddr 1, .ref A, .ref m, .int (nI i)] [] S M cc ss := by
  obtain ⟨hS, hR, hb, hx, hi, hL, hcc, hss, hN⟩ := h
  exact hB bkL_1265 1265 _ _ _ _ _ _ ckL_1265 (lw_n0 (PAI_of (pr_changed (n := 1000) (Nat.le_refl _) hS hR)) (Nat.zero_le _) hS hx hi hL hcc hss hN)
theorem lc_1278 (hB : LB l x K) (h : LC x K A m i b cc ss L S M) : K 1278 [.retAddr 1, .ref A, .ref m, .int (nI i)] [] S M cc ss := by
  obtain ⟨hS, hR, hb, hx, hi, hL, hcc, hss, hN⟩ := h
  exact hB bkL_1278 1278 _ _ _ _ _ _ ckL_1278 (lw_n2 (PAI_of (pr_walk (n := 1000) (Nat.le_refl _) hS hR _ _)) (Nat.zero_le _) hS hx hi hL hcc hss hN)
theorem lc_1311 (hB : LB l x K) (h : LC x K A m i b cc ss L S M) : K 1311 [.retAddr 1, .ref A, .ref m, .int (nI i)] [] S M cc ss := by
  obtain ⟨hS, hR, hb, hx, hi, hL, hcc, hss, hN⟩ := h
  exact hB bkL_1311 1311 _ _ _ _ _ _ ckL_1311 (lw_n1 (PAI_of (pr_given (n := 1000) (Nat.le_refl _) hS hR _)) (Nat.zero_le _) hS hx hi hL hcc hss hN)
theorem lc_1334 (hB : LB l x K) (h : LC x K A m i b cc ss L S M) : K 1334 [.retAddr 1, .ref A, .ref m, .int (nI i)] [] S M cc ss := by
  obtain ⟨hS, hR, hb, hx, hi, hL, hcc, hss, hN⟩ := h
  exact hB bkL_1334 1334 _ _ _ _ _ _ ckL_1334 (lw_n0 (PAI_of (pr_lazy (n := 1000) (Nat.le_refl _) hS hR)) (Nat.zero_le _) hS hx hi hL hcc hss hN)
theorem lc_1347 (hB : LB l x K) (h : LC x K A m i b cc ss L S M) : K 1347 [.retAddr 1, .ref A, .ref m, .int (nI i)] [] S M cc ss := by
  obtain ⟨hS, hR, hb, hx, hi, hL, hcc, hss, hN⟩ := h
  exact hB bkL_1347 1347 _ _ _ _ _ _ ckL_1347 (lw_n1 (PAI_of (pr_aliases (n := 1000) (Nat.le_refl _) hS hR _)) (Nat.zero_le _) hS hx hi hL hcc hss hN)
theorem lc_1370 (hB : LB l x K) (h : LC x K A m i b cc ss L S M) : K 1370 [.retAddr 1, .ref A, .ref m, .int (nI i)] [] S M cc ss := by
  obtain ⟨hS, hR, hb, hx, hi, hL, hcc, hss, hN⟩ := h
  exact hB bkL_1370 1370 _ _ _ _ _ _ ckL_1370 (lw_n0 (PAI_of (pr_free (n := 1000) (Nat.le_refl _) hS hR)) (Nat.zero_le _) hS hx hi hL hcc hss hN)
theorem lc_1383 (hB : LB l x K) (h : LC x K A m i b cc ss L S M) : K 1383 [.retAddr 1, .ref A, .ref m, .int (nI i)] [] S M cc ss := by
  obtain ⟨hS, hR, hb, hx, hi, hL, hcc, hss, hN⟩ := h
  exact hB bkL_1383 1383 _ _ _ _ _ _ ckL_1383 (lw_n1 (PAI_of (pr_wanted (n := 1000) (Nat.le_refl _) hS hR _)) (Nat.zero_le _) hS hx hi hL hcc hss hN)
theorem lc_1406 (hB : LB l x K) (h : LC x K A m i b cc ss L S M) : K 1406 [.retAddr 1, .ref A, .ref m, .int (nI i)] [] S M cc ss := by
  obtain ⟨hS, hR, hb, hx, hi, hL, hcc, hss, hN⟩ := h
  exact hB bkL_1406 1406 _ _ _ _ _ _ ckL_1406 (lw_n1 (PAI_of (pr_whose (n := 1000) (Nat.le_refl _) hS hR _)) (Nat.zero_le _) hS hx hi hL hcc hss hN)
theorem lc_1429 (hB : LB l x K) (h : LC x K A m i b cc ss L S M) : K 1429 [.retAddr 1, .ref A, .ref m, .int (nI i)] [] S M cc ss := by
  obtain ⟨hS, hR, hb, hx, hi, hL, hcc, hss, hN⟩ := h
  exact hB bkL_1429 1429 _ _ _ _ _ _ ckL_1429 (lw_n2 (PAI_of (pr_exit (n := 1000) (Nat.le_refl _) hS hR _ _)) (Nat.zero_le _) hS hx hi hL hcc hss hN)
theorem lc_1462 (hB : LB l x K) (h : LC x K A m i b cc ss L S M) : K 1462 [.retAddr 1, .ref A, .ref m, .int (nI i)] [] S M cc ss := by
  obtain ⟨hS, hR, hb, hx, hi, hL, hcc, hss, hN⟩ := h
  exact hB bkL_1462 1462 _ _ _ _ _ _ ckL_1462 (lw_n1 (PAI_of (pr_exits (n := 1000) (Nat.le_refl _) hS hR _)) (Nat.zero_le _) hS hx hi hL hcc hss hN)
theorem lc_1485 (hB : LB l x K) (h : LC x K A m i b cc ss L S M) : K 1485 [.retAddr 1, .ref A, .ref m, .int (nI i)] [] S M cc ss := by
  obtain ⟨hS, hR, hb, hx, hi, hL, hcc, hss, hN⟩ := h
  exact hB bkL_1485 1485 _ _ _ _ _ _ ckL_1485 (lw_n1 (PAI_of (pr_pending (n := 1000) (Nat.le_refl _) hS hR _)) (Nat.zero_le _) hS hx hi hL hcc hss hN)
theorem lc_1508 (hB : LB l x K) (h : LC x K A m i b cc ss L S M) : K 1508 [.retAddr 1, .ref A, .ref m, .int (nI i)] [] S M cc ss := by
  obtain ⟨hS, hR, hb, hx, hi, hL, hcc, hss, hN⟩ := h
  exact hB bkL_1508 1508 _ _ _ _ _ _ ckL_1508 (lw_n1 (PAI_of (pr_service (n := 1000) (Nat.le_refl _) hS hR _)) (Nat.zero_le _) hS hx hi hL hcc hss hN)
theorem lc_1531 (hB : LB l x K) (h : LC x K A m i b cc ss L S M) : K 1531 [.retAddr 1, .ref A, .ref m, .int (nI i)] [] S M cc ss := by
  obtain ⟨hS, hR, hb, hx, hi, hL, hcc, hss, hN⟩ := h
  exact hB bkL_1531 1531 _ _ _ _ _ _ ckL_1531 (lw_n2 (PAI_of (pr_putBy (n := 1000) (Nat.le_refl _) hS hR _ _)) (Nat.zero_le _) hS hx hi hL hcc hss hN)
theorem lc_1564 (hB : LB l x K) (h : LC x K A m i b cc ss L S M) : K 1564 [.retAddr 1, .ref A, .ref m, .int (nI i)] [] S M cc ss := by
  obtain ⟨hS, hR, hb, hx, hi, hL, hcc, hss, hN⟩ := h
  exact hB bkL_1564 1564 _ _ _ _ _ _ ckL_1564 (lw_n1 (PAI_of (pr_spent (n := 1000) (Nat.le_refl _) hS hR _)) (Nat.zero_le _) hS hx hi hL hcc hss hN)
theorem lc_1587 (hB : LB l x K) (h : LC x K A m i b cc ss L S M) : K 1587 [.retAddr 1, .ref A, .ref m, .int (nI i)] [] S M cc ss := by
  obtain ⟨hS, hR, hb, hx, hi, hL, hcc, hss, hN⟩ := h
  exact hB bkL_1587 1587 _ _ _ _ _ _ ckL_1587 (lw_n2 (PAI_of (pr_seenOf (n := 1000) (Nat.le_refl _) hS hR _ _)) (Nat.zero_le _) hS hx hi hL hcc hss hN)
theorem lc_1620 (hB : LB l x K) (h : LC x K A m i b cc ss L S M) : K 1620 [.retAddr 1, .ref A, .ref m, .int (nI i)] [] S M cc ss := by
  obtain ⟨hS, hR, hb, hx, hi, hL, hcc, hss, hN⟩ := h
  exact hB bkL_1620 1620 _ _ _ _ _ _ ckL_1620 (lw_n1 (PAI_of (pr_isOpen (n := 1000) (Nat.le_refl _) hS hR _)) (Nat.zero_le _) hS hx hi hL hcc hss hN)
theorem lc_1643 (hB : LB l x K) (h : LC x K A m i b cc ss L S M) : K 1643 [.retAddr 1, .ref A, .ref m, .int (nI i)] [] S M cc ss := by
  obtain ⟨hS, hR, hb, hx, hi, hL, hcc, hss, hN⟩ := h
  exact hB bkL_1643 1643 _ _ _ _ _ _ ckL_1643 (lw_n1 (PAI_of (pr_taken (n := 1000) (Nat.le_refl _) hS hR _)) (Nat.zero_le _) hS hx hi hL hcc hss hN)
theorem lc_1666 (hB : LB l x K) (h : LC x K A m i b cc ss L S M) : K 1666 [.retAddr 1, .ref A, .ref m, .int (nI i)] [] S M cc ss := by
  obtain ⟨hS, hR, hb, hx, hi, hL, hcc, hss, hN⟩ := h
  exact hB bkL_1666 1666 _ _ _ _ _ _ ckL_1666 (lw_n1 (PAI_of (pr_longest (n := 1000) (Nat.le_refl _) hS hR _)) (Nat.zero_le _) hS hx hi hL hcc hss hN)
theorem lc_1689 (hB : LB l x K) (h : LC x K A m i b cc ss L S M) : K 1689 [.retAddr 1, .ref A, .ref m, .int (nI i)] [] S M cc ss := by
  obtain ⟨hS, hR, hb, hx, hi, hL, hcc, hss, hN⟩ := h
  exact hB bkL_1689 1689 _ _ _ _ _ _ ckL_1689 (lw_n2 (PAI_of (pr_pendingFor (n := 1000) (Nat.le_refl _) hS hR _ _)) (Nat.zero_le _) hS hx hi hL hcc hss hN)
theorem lc_1722 (hB : LB l x K) (h : LC x K A m i b cc ss L S M) : K 1722 [.retAddr 1, .ref A, .ref m, .int (nI i)] [] S M cc ss := by
  obtain ⟨hS, hR, hb, hx, hi, hL, hcc, hss, hN⟩ := h
  exact hB bkL_1722 1722 _ _ _ _ _ _ ckL_1722 (lw_n1 (PAI_of (pr_clock (n := 1000) (Nat.le_refl _) hS hR _)) (Nat.zero_le _) hS hx hi hL hcc hss hN)
theorem lc_1745 (hB : LB l x K) (h : LC x K A m i b cc ss L S M) : K 1745 [.retAddr 1, .ref A, .ref m, .int (nI i)] [] S M cc ss := by
  obtain ⟨hS, hR, hb, hx, hi, hL, hcc, hss, hN⟩ := h
  exact hB bkL_1745 1745 _ _ _ _ _ _ ckL_1745 (lw_n2 (PAI_of (pr_timed (n := 1000) (Nat.le_refl _) hS hR _ _)) (Nat.zero_le _) hS hx hi hL hcc hss hN)
theorem lc_1778 (hB : LB l x K) (h : LC x K A m i b cc ss L S M) : K 1778 [.retAddr 1, .ref A, .ref m, .int (nI i)] [] S M cc ss := by
  obtain ⟨hS, hR, hb, hx, hi, hL, hcc, hss, hN⟩ := h
  exact hB bkL_1778 1778 _ _ _ _ _ _ ckL_1778 (lw_n0 (PAI_of (pr_first (n := 1000) (Nat.le_refl _) hS hR)) (Nat.zero_le _) hS hx hi hL hcc hss hN)
theorem lc_1791 (hB : LB l x K) (h : LC x K A m i b cc ss L S M) : K 1791 [.retAddr 1, .ref A, .ref m, .int (nI i)] [] S M cc ss := by
  obtain ⟨hS, hR, hb, hx, hi, hL, hcc, hss, hN⟩ := h
  exact hB bkL_1791 1791 _ _ _ _ _ _ ckL_1791 (lw_n3 (PAI_of (pr_program (n := 1000) (Nat.le_refl _) hS hR _ _ _)) (Nat.zero_le _) hS hx hi hL hcc hss hN)
theorem lc_1834 (hB : LB l x K) (h : LC x K A m i b cc ss L S M) : K 1834 [.retAddr 1, .ref A, .ref m, .int (nI i)] [] S M cc ss := by
  obtain ⟨hS, hR, hb, hx, hi, hL, hcc, hss, hN⟩ := h
  exact hB bkL_1834 1834 _ _ _ _ _ _ ckL_1834 (lw_n2 (pr_foretold (n := 1000) (Nat.le_refl _) (by decide) hS hR hb _ _) (Nat.zero_le _) hS hx hi hL hcc hss hN)
theorem lc_1867 (hB : LB l x K) (h : LC x K A m i b cc ss L S M) : K 1867 [.retAddr 1, .ref A, .ref m, .int (nI i)] [] S M cc ss := by
  obtain ⟨hS, hR, hb, hx, hi, hL, hcc, hss, hN⟩ := h
  exact hB bkL_1867 1867 _ _ _ _ _ _ ckL_1867 (lw_n0 (pr_till (n := 1000) (Nat.le_refl _) (by decide) hS hR hb) (Nat.zero_le _) hS hx hi hL hcc hss hN)
theorem lc_1880 (hB : LB l x K) (h : LC x K A m i b cc ss L S M) : K 1880 [.retAddr 1, .ref A, .ref m, .int (nI i)] [] S M cc ss := by
  obtain ⟨hS, hR, hb, hx, hi, hL, hcc, hss, hN⟩ := h
  exact hB bkL_1880 1880 _ _ _ _ _ _ ckL_1880 (lw_n1 (pr_waits (n := 1000) (Nat.le_refl _) (by decide) hS hR hb _) (Nat.zero_le _) hS hx hi hL hcc hss hN)
theorem lc_1903 (hB : LB l x K) (h : LC x K A m i b cc ss L S M) : K 1903 [.retAddr 1, .ref A, .ref m, .int (nI i)] [] S M cc ss := by
  obtain ⟨hS, hR, hb, hx, hi, hL, hcc, hss, hN⟩ := h
  exact hB bkL_1903 1903 _ _ _ _ _ _ ckL_1903 (lw_n1 (pr_roomiest (n := 1000) (Nat.le_refl _) (by decide) hS hR hb _) (Nat.zero_le _) hS hx hi hL hcc hss hN)
theorem lc_1926 (hB : LB l x K) (h : LC x K A m i b cc ss L S M) : K 1926 [.retAddr 1, .ref A, .ref m, .int (nI i)] [] S M cc ss := by
  obtain ⟨hS, hR, hb, hx, hi, hL, hcc, hss, hN⟩ := h
  exact hB bkL_1926 1926 _ _ _ _ _ _ ckL_1926 (lw_n2 (PAI_of (pr_plainly (n := 1000) (Nat.le_refl _) hS hR _ _)) (Nat.zero_le _) hS hx hi hL hcc hss hN)
theorem lc_1959 (hB : LB l x K) (h : LC x K A m i b cc ss L S M) : K 1959 [.retAddr 1, .ref A, .ref m, .int (nI i)] [] S M cc ss := by
  obtain ⟨hS, hR, hb, hx, hi, hL, hcc, hss, hN⟩ := h
  exact hB bkL_1959 1959 _ _ _ _ _ _ ckL_1959 (lw_n1 (PAI_of (pr_plainTraps (n := 1000) (Nat.le_refl _) hS hR _)) (Nat.zero_le _) hS hx hi hL hcc hss hN)
theorem lc_1982 (hB : LB l x K) (h : LC x K A m i b cc ss L S M) : K 1982 [.retAddr 1, .ref A, .ref m, .int (nI i)] [] S M cc ss := by
  obtain ⟨hS, hR, hb, hx, hi, hL, hcc, hss, hN⟩ := h
  exact hB bkL_1982 1982 _ _ _ _ _ _ ckL_1982 (lw_n1 (PAI_of (pr_plainHeard (n := 1000) (Nat.le_refl _) hS hR _)) (Nat.zero_le _) hS hx hi hL hcc hss hN)
theorem lc_2019 (hB : LB l x K) (h : LC x K A m i b cc ss L S M) : K 2019 [.retAddr 1, .ref A, .ref m, .int (nI i)] [] S M cc ss := by
  obtain ⟨hS, hR, hb, hx, hi, hL, hcc, hss, hN⟩ := h
  exact hB bkL_2019 2019 _ _ _ _ _ _ ckL_2019 (lw_n0 (PAI_of (pr_image (n := 1000) (Nat.le_refl _) hS hR)) (Nat.zero_le _) hS hx hi hL hcc hss hN)
theorem lc_2032 (hB : LB l x K) (h : LC x K A m i b cc ss L S M) : K 2032 [.retAddr 1, .ref A, .ref m, .int (nI i)] [] S M cc ss := by
  obtain ⟨hS, hR, hb, hx, hi, hL, hcc, hss, hN⟩ := h
  exact hB bkL_2032 2032 _ _ _ _ _ _ ckL_2032 (lw_n0 (PAI_of (pr_back (n := 1000) (Nat.le_refl _) hS hR)) (Nat.zero_le _) hS hx hi hL hcc hss hN)
theorem lc_2045 (hB : LB l x K) (h : LC x K A m i b cc ss L S M) : K 2045 [.retAddr 1, .ref A, .ref m, .int (nI i)] [] S M cc ss := by
  obtain ⟨hS, hR, hb, hx, hi, hL, hcc, hss, hN⟩ := h
  exact hB bkL_2045 2045 _ _ _ _ _ _ ckL_2045 (lw_n0 (PAI_of (pr_steps (n := 1000) (Nat.le_refl _) hS hR)) (Nat.zero_le _) hS hx hi hL hcc hss hN)
theorem lc_627 (hB : LB l x K) (h : LC x K A m i b cc ss L S M) : K 627 [.retAddr 1, .ref A, .ref m, .int (nI i)] [] S M cc ss := by
  obtain ⟨hS, hR, hb, hx, hi, hL, hcc, hss, hN⟩ := h
  have main : ∀ z : Int32, (z = 0 ∨ z = 1) → (x.2.2.2.2.2.2.2.2 (i + 2) = 0 → z = 0) → (¬ x.2.2.2.2.2.2.2.2 (i + 2) = 0 → z = 1) → K 646 [.retAddr 1, .ref A, .ref m, .int (nI i)] [.int z, .int (x.2.2.2.2.2.2.2.2 (i + 1)), .ref A] S M cc ss := by
    intro z hz h0 h1
    obtain ⟨mc', ms', ⟨hm1, hm2⟩, hp⟩ := PAI_of (pr_open (n := 1000) (Nat.le_refl _) hS hR hb (x.2.2.2.2.2.2.2.2 (i + 1)) z hz)
    refine hB bkL_646 646 _ _ _ _ _ _ ckL_646 ?_
    unfold bkL_646
    rw [gt_v2]
    refine ⟨(hS.2.1 0 _ rfl).1, rfl, mc', ms', by omega, by omega, hp l x 0 _ (fun r S' M1 hS' H => ?_)⟩
    show gw_blk (gw_ok l x 16) x 427204 7820637 LQ K _ _ _ [.int r] S' M1 (cc + mc') (ss + ms')
    have k668 : K 668 [.retAddr 1, .ref A, .ref m, .int (nI i)] [.int z, .int (x.2.2.2.2.2.2.2.2 (i + 1)), .ref m, .int r] S' M1 (cc + mc') (ss + ms') := by
      refine hB bkL_668 668 _ _ _ _ _ _ ckL_668 ?_
      unfold bkL_668
      rw [gt_v2]
      refine ⟨(hS'.2.2.1 0 _ rfl).1, rfl, 0, 0, by omega, by omega, H 0 _ (fun M2 hS2 hR2 g1 g2 => ?_)⟩
      show gw_blk (gw_ok l x 16) x 427204 7820637 LQ K _ _ _ [.int r, .int r] S' M2 (cc + mc' + 0) (ss + ms' + 0)
      exact la_eq (hN S' M2 (b + 8100) _ _ hS2 hR2 (by omega) (by omega) (by omega))
    refine la_m ?_
    refine la_arg (j := 1) hx (by omega) hL ?_
    refine la_arg (j := 2) hx (by omega) hL ?_
    rw [gt_if]
    refine ⟨fun hc => ?_, fun hc => ?_⟩
    · refine hB bkL_667 667 _ _ _ _ _ _ ckL_667 ?_
      have e := h0 hc
      subst e
      exact k668
    · have e := h1 hc
      subst e
      exact k668
  refine hB bkL_627 627 _ _ _ _ _ _ ckL_627 ?_
  unfold bkL_627
  refine la_x ?_
  refine la_arg (j := 1) hx (by omega) hL ?_
  refine la_arg (j := 2) hx (by omega) hL ?_
  rw [gt_if]
  refine ⟨fun hc => ?_, fun hc => ?_⟩
  · refine hB bkL_645 645 _ _ _ _ _ _ ckL_645 ?_
    exact main 0 (Or.inl rfl) (fun _ => rfl) (fun hn => absurd hc hn)
  · exact main 1 (Or.inr rfl) (fun hn => absurd hn hc) (fun _ => rfl)
theorem lc_2005 (hB : LB l x K) (hV : LV l x K m) (h : LC x K A m i b cc ss L S M) : K 2005 [.retAddr 1, .ref A, .ref m, .int (nI i)] [] S M cc ss := by
  obtain ⟨hS, hR, hb, hx, hi, hL, hcc, hss, hN⟩ := h
  obtain ⟨r, hr⟩ := pr_share hS hR
  refine hB bkL_2005 2005 _ _ _ _ _ _ ckL_2005 ?_
  unfold bkL_2005
  refine la_x ?_
  rw [gt_v0]
  refine ⟨(hS.2.1 0 _ rfl).1, rfl, 0, 0, by omega, by omega, (hr l x 0 _ ?_).1⟩
  show gw_blk (gw_ok l x 16) x 427204 7820637 LQ K _ _ _ [.long r] S M (cc + 0) (ss + 0)
  refine la_m ?_
  refine hV _ r S M (cc + 0) (ss + 0) (hS.2.2.1 0 _ rfl).1 (by omega) (by omega) (hr l x 0 _ ?_).2
  refine hB bkL_2013 2013 _ _ _ _ _ _ ckL_2013 ?_
  have e : gw_blk (gw_ok l x 16) x 427204 7820637 LQ K bkL_2013 2013 [.retAddr 1, .ref A, .ref m, .int (nI i)] [.long r, .long r] S M (cc + 0 + 0) (ss + 0 + 0) = ((lg_cmp r r = 0 → K 2058 [.retAddr 1, .ref A, .ref m, .int (nI i)] [] S M (cc + 0 + 0) (ss + 0 + 0)) ∧ (¬ lg_cmp r r = 0 → ((0 : Int32) = 0 ∨ (0 : Int32) = 1) ∧ cc + 0 + 0 ≤ 427204 ∧ ss + 0 + 0 ≤ 7820637 ∧ LQ (some (.int 0)) S M)) := rfl
  show gw_blk (gw_ok l x 16) x 427204 7820637 LQ K bkL_2013 2013 [.retAddr 1, .ref A, .ref m, .int (nI i)] [.long r, .long r] S M (cc + 0 + 0) (ss + 0 + 0)
  rw [e]
  have hz : lg_cmp r r = 0 := by
    unfold lg_cmp
    simp
  exact ⟨fun _ => hN S M b _ _ hS hR (by omega) (by omega) (by omega), fun hc => absurd hz hc⟩
end LAW2
