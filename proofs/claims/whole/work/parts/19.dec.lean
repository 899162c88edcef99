theorem gw_inj1 {α : Type} {a b : α} (h : some a = some b) : a = b := Option.some.inj h
theorem gw_inj2 {α β : Type} {a c : α} {b e : β} (h : some (a, b) = some (c, e)) : a = c ∧ b = e := Prod.mk.inj (Option.some.inj h)
theorem gw_inj3 {α β γ : Type} {a c : α} {b e : β} {f k : γ} (h : some (a, b, f) = some (c, e, k)) : a = c ∧ b = e ∧ f = k := by
  have h := Option.some.inj h
  exact ⟨congrArg (fun z => z.1) h, congrArg (fun z => z.2.1) h, congrArg (fun z => z.2.2) h⟩
theorem gw_tup {α β γ : Type} {a c : α} {b e : β} {f k : γ} (h : (a, b, f) = (c, e, k)) : a = c ∧ b = e ∧ f = k := ⟨congrArg (fun z => z.1) h, congrArg (fun z => z.2.1) h, congrArg (fun z => z.2.2) h⟩
def gw_bi {α β γ : Type} (o : Option (α × β)) (f : α → β → Option γ) : Option γ := match o with
  | some z => f z.1 z.2
  | none => none
theorem gw_bnd2 {α β γ : Type} {o : Option (α × β)} {f : α → β → Option γ} {y : γ} (h : gw_bi o f = some y) : ∃ a b, o = some (a, b) ∧ f a b = some y := by
  cases o with
  | none => cases h
  | some z => exact ⟨z.1, z.2, rfl, h⟩
theorem gw_ifp2 {α : Type} {c k : Prop} [Decidable c] {X Y y : α} (e : k = c) (h : (if c then X else Y) = y) (hc : k) : X = y := by subst e; rw [if_pos hc] at h; exact h
theorem gw_ifn2 {α : Type} {c k : Prop} [Decidable c] {X Y y : α} (e : k = c) (h : (if c then X else Y) = y) (hc : ¬ k) : Y = y := by subst e; rw [if_neg hc] at h; exact h
theorem gw_c2_eq (a b : Int32) : gw_c2 .eq a b = (a = b) := rfl
theorem gw_c2_ne (a b : Int32) : gw_c2 .ne a b = (¬ a = b) := rfl
theorem gw_c2_lt (a b : Int32) : gw_c2 .lt a b = (a < b) := rfl
theorem gw_c2_ge (a b : Int32) : gw_c2 .ge a b = (b ≤ a) := rfl
theorem gw_c2_gt (a b : Int32) : gw_c2 .gt a b = (b < a) := rfl
theorem gw_c2_le (a b : Int32) : gw_c2 .le a b = (a ≤ b) := rfl
theorem gw_mp {α β : Type} {o : Option α} {f : α → β} {y : β} (h : o.map f = some y) : ∃ z, o = some z ∧ f z = y := Option.map_eq_some_iff.mp h
def gw_b01 (v : Int32) : Prop := v = 0 ∨ v = 1
section STEPS3
variable {ok : gw_Ok} {x : gw_C} {mc ms : Nat} {Q : Option Value → gw_S → gw_M → Prop} {K : Nat → gw_Kt} {pc pc' n : Nat} {iv : List Int32} {sg : List gw_Sig} {es : List gw_E} {ls t : List Value} {S : gw_S} {μ : gw_M} {cc ss : Nat} {k ci ti j r : Nat} {v : Int32}
theorem gt_putz : gw_blk ok x mc ms Q K ((pc, n, .putfield j, [ci, k, 2, ti], iv, sg) :: es) pc' ls (.int v :: .ref r :: t) S μ cc ss = (gw_kd S r = ci ∧ gw_b01 v ∧ gw_blk ok x mc ms Q K es (pc + n) ls t S (gw_up μ r k v) cc ss) := rfl
theorem gt_retz : gw_blk ok x mc ms Q K ((pc, n, .ireturn, [1], iv, sg) :: es) pc' ls [.int v] S μ cc ss = (gw_b01 v ∧ cc ≤ mc ∧ ss ≤ ms ∧ Q (some (.int v)) S μ) := rfl
end STEPS3
abbrev gw_cl (l : Launch) (x : gw_C) (d mc ms : Nat) (bs : List (Nat × List gw_E)) (Q : Option Value → gw_S → gw_M → Prop) (K : Nat → gw_Kt) : Prop := ∀ pc lv st S μ cc ss, gw_blk (gw_ok l x d) x mc ms Q K (gw_find bs pc) pc lv st S μ cc ss → K pc lv st S μ cc ss
theorem gt_tsw {ok : gw_Ok} {x : gw_C} {mc ms : Nat} {Q : Option Value → gw_S → gw_M → Prop} {K : Nat → gw_Kt} {pc pc' n dd : Nat} {ts : List Nat} {lo v : Int32} {sg : List gw_Sig} {es : List gw_E} {ls t : List Value} {S : gw_S} {μ : gw_M} {cc ss : Nat} {z1 z2 z3 : Int} {z4 : Array Int} : gw_blk ok x mc ms Q K ((pc, n, .tableswitch z1 z2 z3 z4, dd :: ts, [lo], sg) :: es) pc' ls (.int v :: t) S μ cc ss = gw_sw (fun k => K k ls t S μ cc ss) dd ts lo v := rfl

def gw_fil (μ : gw_M) (a n : Nat) (v : Int32) : gw_M := fun b j => if b = a ∧ j < n then v else μ b j
theorem gw_fil_0 (μ : gw_M) (a : Nat) (v : Int32) : gw_fil μ a 0 v = μ := by
  funext b j
  simp [gw_fil]
theorem gw_fil_up (μ : gw_M) (a k : Nat) (v : Int32) : gw_up (gw_fil μ a k v) a k v = gw_fil μ a (k + 1) v := by
  funext b j
  simp only [gw_up, gw_fil]
  by_cases hb : b = a
  · subst hb
    by_cases hj : j = k
    · subst hj; simp
    · by_cases h2 : j < k
      · simp [hj, h2, Nat.lt_succ_of_lt h2]
      · have : ¬ j < k + 1 := by omega
        simp [hj, h2, this]
  · simp [hb]
theorem gw_nI_in {k N : Nat} (h : k < N) (hN : N ≤ 100000) : gw_in (nI k) N := ⟨nI_pos' (by omega), by rw [nI_clamp (by omega)]; exact h⟩
theorem ok_J7_fill_53178 {l : Launch} {x : gw_C} {d : Nat} {S : gw_S} {Q : Option Value → gw_S → gw_M → Prop} {v : Int32} {a N : Nat} {μ : gw_M} (hk : gw_kd S a = 12) (hl : gw_ln S a = N) (hN : N ≤ 100000) (hq : Q none S (gw_fil μ a N v)) : gw_ok l x (d + 1) sgJ7_fill_53178 0 0 [.ref a, .int v] S μ Q := by
  refine gw_ok_of stJ7_fill_53178 (lv0 := [.ref a, .int v, .retAddr 0, .retAddr 0]) (Nat.le_of_ble_eq_true rfl) rfl rfl ?_
  intro K hK
  have loop : ∀ m k : Nat, k + m = N → K 5 [.ref a, .int v, .int (nI k), .int (Int32.ofNat N)] [] S (gw_fil μ a k v) 0 0 := by
    intro m
    induction m with
    | zero =>
      intro k hkm
      refine hK _ _ _ _ _ _ _ ?_
      rw [fdJ7_fill_53178_5]
      simp only [gt_nil, true_and, eq_self, gt_iload_n, gt_ink, gw_nth, gt_icmp, bkJ7_fill_53178_5]
      refine ⟨fun _ => ?_, fun c => ?_⟩
      · refine hK _ _ _ _ _ _ _ ?_
        rw [fdJ7_fill_53178_20]
        simp only [gt_vret, bkJ7_fill_53178_20]
        have : k = N := by omega
        subst this
        exact ⟨Nat.le_refl _, Nat.le_refl _, hq⟩
      · exact absurd (show Int32.ofNat N ≤ nI k from nI_le (a := N) (b := k) (by omega) (by omega)) c
    | succ m ih =>
      intro k hkm
      refine hK _ _ _ _ _ _ _ ?_
      rw [fdJ7_fill_53178_5]
      simp only [gt_nil, true_and, eq_self, gt_iload_n, gt_aload_n, gt_rfk, gt_ink, gw_nth, gw_set, gt_icmp, gt_iastore, gt_iinc, gt_goto, bkJ7_fill_53178_5, hk, hl]
      refine ⟨fun c => ?_, fun c => ?_⟩
      · exact absurd (show nI N ≤ nI k from c) (nI_ge (a := k) (b := N) (by omega) (by omega))
      · refine ⟨gw_nI_in (by omega) hN, ?_⟩
        rw [nI_clamp (n := k) (by omega), gw_fil_up, nI_1]
        exact ih (k + 1) (by omega)
  refine hK _ _ _ _ _ _ _ ?_
  rw [fdJ7_fill_53178_0]
  simp only [gt_nil, true_and, eq_self, gt_iconst, gt_aload_n, gt_rfk, gt_istore_n, gt_alen, gw_nth, gw_set, bkJ7_fill_53178_0, hk, hl, true_or]
  have := loop N 0 (by omega)
  rw [gw_fil_0, nI_0] at this
  exact this
theorem gw_cpy_0 (μ : gw_M) (a b : Nat) : gw_cpy μ a b 0 0 0 = μ := by
  funext c j
  simp only [gw_cpy, gw_row, va_cpy]
  by_cases hc : c = b
  · subst hc; simp
  · simp [hc]
theorem gw_cpy_up (μ : gw_M) {a b : Nat} (hab : a ≠ b) (k : Nat) : gw_up (gw_cpy μ a b 0 0 k) b k (gw_cpy μ a b 0 0 k a k) = gw_cpy μ a b 0 0 (k + 1) := by
  funext c j
  simp only [gw_up, gw_cpy, gw_row, va_cpy, if_neg hab]
  by_cases hc : c = b
  · subst hc
    by_cases hj : j = k
    · subst hj; simp
    · by_cases h2 : j < k
      · have : j < k + 1 := by omega
        simp [hj, h2, this]
      · have : ¬ j < k + 1 := by omega
        simp [hj, h2, this]
  · simp [hc]
theorem ok_X11_copy {l : Launch} {x : gw_C} {d : Nat} {S : gw_S} {Q : Option Value → gw_S → gw_M → Prop} {a b : Nat} {μ : gw_M} (hab : a ≠ b) (ha : gw_kd S a = 12) (hla : gw_ln S a = 20813) (hb : gw_kd S b = 12) (hlb : gw_ln S b = 20813) (hq : Q none S (gw_cpy μ a b 0 0 20813)) : gw_ok l x (d + 1) sgX11_copy 0 0 [.ref a, .ref b] S μ Q := by
  refine gw_ok_of stX11_copy (lv0 := [.ref a, .ref b, .retAddr 0]) (Nat.le_of_ble_eq_true rfl) rfl rfl ?_
  intro K hK
  have loop : ∀ m k : Nat, k + m = 20813 → K 2 [.ref a, .ref b, .int (nI k)] [] S (gw_cpy μ a b 0 0 k) 0 0 := by
    intro m
    induction m with
    | zero =>
      intro k hkm
      refine hK _ _ _ _ _ _ _ ?_
      rw [fdX11_copy_2]
      simp only [gt_nil, true_and, eq_self, gt_iload_n, gt_ink, gw_nth, gt_sipush, gt_icmp, bkX11_copy_2]
      refine ⟨fun _ => ?_, fun c => ?_⟩
      · refine hK _ _ _ _ _ _ _ ?_
        rw [fdX11_copy_21]
        simp only [gt_vret, bkX11_copy_21]
        have : k = 20813 := by omega
        subst this
        exact ⟨Nat.le_refl _, Nat.le_refl _, hq⟩
      · exact absurd (show nI 20813 ≤ nI k from nI_le (by omega) (by omega)) c
    | succ m ih =>
      intro k hkm
      refine hK _ _ _ _ _ _ _ ?_
      rw [fdX11_copy_2]
      simp only [gt_nil, true_and, eq_self, gt_iload_n, gt_aload_n, gt_rfk, gt_ink, gw_nth, gw_set, gt_sipush, gt_icmp, gt_iaload, gt_iastore, gt_iinc, gt_goto, bkX11_copy_2, ha, hla, hb, hlb]
      refine ⟨fun c => ?_, fun c => ?_⟩
      · exact absurd (show nI 20813 ≤ nI k from c) (nI_ge (by omega) (by omega))
      · refine ⟨gw_nI_in (by omega) (by omega), gw_nI_in (by omega) (by omega), ?_⟩
        rw [nI_clamp (n := k) (by omega), gw_cpy_up μ hab, nI_1]
        exact ih (k + 1) (by omega)
  refine hK _ _ _ _ _ _ _ ?_
  rw [fdX11_copy_0]
  simp only [gt_nil, true_and, eq_self, gt_iconst, gt_istore_n, gw_set, bkX11_copy_0]
  have := loop 20813 0 (by omega)
  rw [gw_cpy_0, nI_0] at this
  exact this

def F_X7_copyFrom (n0 : Nat) (a0 : Nat) (p1 : Nat) (μ : gw_M) : Option (gw_M) := gw_let (gw_cpy μ (p1 + 1) (a0 + 1) 0 0 24) (fun (μ_1 : gw_M) => gw_let (gw_cpy μ_1 (p1 + 2) (a0 + 2) 0 0 24) (fun (μ_2 : gw_M) => gw_let (gw_cpy μ_2 (p1 + 3) (a0 + 3) 0 0 24) (fun (μ_3 : gw_M) => gw_let (gw_up μ_3 a0 3 (μ_3 p1 3)) (fun (μ_4 : gw_M) => gw_let (gw_up μ_4 a0 4 (μ_4 p1 4)) (fun (μ_5 : gw_M) => some μ_5)))))
theorem ok_X7_copyFrom {l : Launch} {x : gw_C} {d : Nat} {S : gw_S} {Q : Option Value → gw_S → gw_M → Prop} {a0 p1 : Nat} {n0 : Nat} {μ : gw_M} {μ'} (hS0 : gw_sh S 7 a0) (hpp1 : gw_sh S 7 p1) (h : F_X7_copyFrom n0 a0 p1 μ = some μ') (hq : Q none S μ') : gw_ok l x (d + 1) sgX7_copyFrom 0 0 [.ref a0, .ref p1] S μ Q := by
  refine gw_ok_of stX7_copyFrom (lv0 := [.ref a0, .ref p1]) (Nat.le_of_ble_eq_true rfl) rfl rfl ?_
  intro K hK
  have hcc : 0 ≤ 0 := Nat.zero_le _
  have hss : 0 ≤ 0 := Nat.zero_le _
  have ka0_0 : gw_kd S a0 = 7 := (hS0 0 _ rfl).1
  have ra0_0_0 : gw_rf S a0 0 = a0 + 1 := (hS0 0 _ rfl).2.2 (0, 1) (by decide)
  have ra0_0_1 : gw_rf S a0 1 = a0 + 2 := (hS0 0 _ rfl).2.2 (1, 2) (by decide)
  have ra0_0_2 : gw_rf S a0 2 = a0 + 3 := (hS0 0 _ rfl).2.2 (2, 3) (by decide)
  have ka0_1 : gw_kd S (a0 + 1) = 12 := (hS0 1 _ rfl).1
  have la0_1 : gw_ln S (a0 + 1) = 24 := (hS0 1 _ rfl).2.1
  have ka0_2 : gw_kd S (a0 + 2) = 12 := (hS0 2 _ rfl).1
  have la0_2 : gw_ln S (a0 + 2) = 24 := (hS0 2 _ rfl).2.1
  have ka0_3 : gw_kd S (a0 + 3) = 12 := (hS0 3 _ rfl).1
  have la0_3 : gw_ln S (a0 + 3) = 24 := (hS0 3 _ rfl).2.1
  have kp1_0 : gw_kd S p1 = 7 := (hpp1 0 _ rfl).1
  have rp1_0_0 : gw_rf S p1 0 = p1 + 1 := (hpp1 0 _ rfl).2.2 (0, 1) (by decide)
  have rp1_0_1 : gw_rf S p1 1 = p1 + 2 := (hpp1 0 _ rfl).2.2 (1, 2) (by decide)
  have rp1_0_2 : gw_rf S p1 2 = p1 + 3 := (hpp1 0 _ rfl).2.2 (2, 3) (by decide)
  have kp1_1 : gw_kd S (p1 + 1) = 12 := (hpp1 1 _ rfl).1
  have lp1_1 : gw_ln S (p1 + 1) = 24 := (hpp1 1 _ rfl).2.1
  have kp1_2 : gw_kd S (p1 + 2) = 12 := (hpp1 2 _ rfl).1
  have lp1_2 : gw_ln S (p1 + 2) = 24 := (hpp1 2 _ rfl).2.1
  have kp1_3 : gw_kd S (p1 + 3) = 12 := (hpp1 3 _ rfl).1
  have lp1_3 : gw_ln S (p1 + 3) = 24 := (hpp1 3 _ rfl).2.1
  unfold F_X7_copyFrom at h
  refine hK _ _ _ _ _ _ _ ?_
  rw [fdX7_copyFrom_0]
  simp only [gt_nil, true_and, eq_self, gt_aload_n, gt_rfk, gw_nth, gt_get_r, gt_get_i, gt_get_z, gt_iconst, gt_bipush, gt_s1_0, gt_s2_0, gt_s3_0, gt_s4_0, gt_s1_1, gt_s2_1, gt_s3_1, gt_s4_1, gt_acpy, gt_put_i, gt_putz, gt_vret, bkX7_copyFrom_0, ka0_0, ra0_0_0, ra0_0_1, ra0_0_2, ka0_1, la0_1, ka0_2, la0_2, ka0_3, la0_3, kp1_0, rp1_0_0, rp1_0_1, rp1_0_2, kp1_1, lp1_1, kp1_2, lp1_2, kp1_3, lp1_3, (show Int32.toNatClampNeg 0 = 0 from rfl), (show Int32.toNatClampNeg 24 = 24 from rfl)]
  refine ⟨by decide, by decide, by decide, by decide, by decide, ?_⟩
  obtain ⟨μ_1, hμ_1, h⟩ := gw_lt h
  try rw [← hμ_1]
  refine ⟨by decide, by decide, by decide, by decide, by decide, ?_⟩
  obtain ⟨μ_2, hμ_2, h⟩ := gw_lt h
  try rw [← hμ_2]
  refine ⟨by decide, by decide, by decide, by decide, by decide, ?_⟩
  obtain ⟨μ_3, hμ_3, h⟩ := gw_lt h
  try rw [← hμ_3]
  obtain ⟨μ_4, hμ_4, h⟩ := gw_lt h
  try rw [← hμ_4]
  obtain ⟨μ_5, hμ_5, h⟩ := gw_lt h
  try rw [← hμ_5]
  obtain rfl := gw_inj1 h
  exact ⟨hcc, hss, hq⟩
def F_X0_copyFrom (n0 : Nat) (a0 : Nat) (p1 : Nat) (μ : gw_M) : Option (gw_M) := (F_X7_copyFrom n0 (a0 + 1) (p1 + 1) μ).bind (fun (μ_2 : gw_M) => gw_let (gw_cpy μ_2 (p1 + 5) (a0 + 5) 0 0 16) (fun (μ_5 : gw_M) => gw_let (gw_up μ_5 a0 2 (μ_5 p1 2)) (fun (μ_6 : gw_M) => gw_let (gw_up μ_6 a0 3 (μ_6 p1 3)) (fun (μ_7 : gw_M) => (if (μ_7 p1 4) = 0 ∨ (μ_7 p1 4) = 1 then gw_let (gw_up μ_7 a0 4 (μ_7 p1 4)) (fun (μ_9 : gw_M) => gw_let (gw_up μ_9 a0 5 (μ_9 p1 5)) (fun (μ_10 : gw_M) => gw_let (gw_up μ_10 a0 6 (μ_10 p1 6)) (fun (μ_11 : gw_M) => some μ_11))) else none)))))
theorem ok_X0_copyFrom {l : Launch} {x : gw_C} {d : Nat} {S : gw_S} {Q : Option Value → gw_S → gw_M → Prop} {a0 p1 : Nat} {n0 : Nat} {μ : gw_M} {μ'} (hS0 : gw_sh S 0 a0) (hpp1 : gw_sh S 0 p1) (h : F_X0_copyFrom n0 a0 p1 μ = some μ') (hq : Q none S μ') : gw_ok l x (d + 2) sgX0_copyFrom 0 0 [.ref a0, .ref p1] S μ Q := by
  refine gw_ok_of stX0_copyFrom (lv0 := [.ref a0, .ref p1]) (Nat.le_of_ble_eq_true rfl) rfl rfl ?_
  intro K hK
  have hcc : 0 ≤ 0 := Nat.zero_le _
  have hss : 0 ≤ 0 := Nat.zero_le _
  have ka0_0 : gw_kd S a0 = 0 := (hS0 0 _ rfl).1
  have ra0_0_0 : gw_rf S a0 0 = a0 + 1 := (hS0 0 _ rfl).2.2 (0, 1) (by decide)
  have ra0_0_1 : gw_rf S a0 1 = a0 + 5 := (hS0 0 _ rfl).2.2 (1, 5) (by decide)
  have ka0_1 : gw_kd S (a0 + 1) = 7 := (hS0 1 _ rfl).1
  have ka0_5 : gw_kd S (a0 + 5) = 12 := (hS0 5 _ rfl).1
  have la0_5 : gw_ln S (a0 + 5) = 16 := (hS0 5 _ rfl).2.1
  have kp1_0 : gw_kd S p1 = 0 := (hpp1 0 _ rfl).1
  have rp1_0_0 : gw_rf S p1 0 = p1 + 1 := (hpp1 0 _ rfl).2.2 (0, 1) (by decide)
  have rp1_0_1 : gw_rf S p1 1 = p1 + 5 := (hpp1 0 _ rfl).2.2 (1, 5) (by decide)
  have kp1_1 : gw_kd S (p1 + 1) = 7 := (hpp1 1 _ rfl).1
  have kp1_5 : gw_kd S (p1 + 5) = 12 := (hpp1 5 _ rfl).1
  have lp1_5 : gw_ln S (p1 + 5) = 16 := (hpp1 5 _ rfl).2.1
  unfold F_X0_copyFrom at h
  refine hK _ _ _ _ _ _ _ ?_
  rw [fdX0_copyFrom_0]
  simp only [gt_nil, true_and, eq_self, gt_aload_n, gt_rfk, gw_nth, gt_get_r, gt_get_i, gt_get_z, gt_v0, gt_v1, gt_v2, gt_v3, gt_v4, gt_v5, gt_iconst, gt_bipush, gt_s1_0, gt_s2_0, gt_s3_0, gt_s4_0, gt_s1_1, gt_s2_1, gt_s3_1, gt_s4_1, gt_acpy, gt_put_i, gt_putz, gt_vret, bkX0_copyFrom_0, ka0_0, ra0_0_0, ra0_0_1, ka0_1, ka0_5, la0_5, kp1_0, rp1_0_0, rp1_0_1, kp1_1, kp1_5, lp1_5, (show Int32.toNatClampNeg 0 = 0 from rfl), (show Int32.toNatClampNeg 16 = 16 from rfl)]
  obtain ⟨μ_2, e_3, h⟩ := gw_bnd h
  refine ⟨rfl, 0, 0, hcc, hss, ok_X7_copyFrom (gw_sub hS0 7 1 (by decide +kernel)) (gw_sub hpp1 7 1 (by decide +kernel)) e_3 ?_⟩
  simp only [gt_nil, true_and, eq_self, gt_aload_n, gt_rfk, gw_nth, gt_get_r, gt_get_i, gt_get_z, gt_iconst, gt_bipush, gt_s1_0, gt_s2_0, gt_s3_0, gt_s4_0, gt_s1_1, gt_s2_1, gt_s3_1, gt_s4_1, gt_acpy, gt_put_i, gt_putz, gt_vret, Option.toList, List.cons_append, List.nil_append, Nat.add_zero, ka0_0, ra0_0_0, ra0_0_1, ka0_1, ka0_5, la0_5, kp1_0, rp1_0_0, rp1_0_1, kp1_1, kp1_5, lp1_5, (show Int32.toNatClampNeg 0 = 0 from rfl), (show Int32.toNatClampNeg 16 = 16 from rfl)]
  refine ⟨by decide, by decide, by decide, by decide, by decide, ?_⟩
  obtain ⟨μ_5, hμ_5, h⟩ := gw_lt h
  try rw [← hμ_5]
  obtain ⟨μ_6, hμ_6, h⟩ := gw_lt h
  try rw [← hμ_6]
  obtain ⟨μ_7, hμ_7, h⟩ := gw_lt h
  try rw [← hμ_7]
  obtain ⟨c_8, h⟩ := gw_ife h
  refine ⟨c_8, ?_⟩
  obtain ⟨μ_9, hμ_9, h⟩ := gw_lt h
  try rw [← hμ_9]
  obtain ⟨μ_10, hμ_10, h⟩ := gw_lt h
  try rw [← hμ_10]
  obtain ⟨μ_11, hμ_11, h⟩ := gw_lt h
  try rw [← hμ_11]
  obtain rfl := gw_inj1 h
  exact ⟨hcc, hss, hq⟩
def F_X10_hasBit (n0 : Nat) (v0 : Int32) (v1 : Int32) (μ : gw_M) : Option (Int32) := (if ((v0 >>> (v1 &&& 31)) &&& (1 : Int32)) = 0 then some 0 else some 1)
theorem ok_X10_hasBit {l : Launch} {x : gw_C} {d : Nat} {S : gw_S} {Q : Option Value → gw_S → gw_M → Prop} {v0 v1 : Int32} {n0 : Nat} {μ : gw_M} {r} (h : F_X10_hasBit n0 v0 v1 μ = some r) (hq : ((r = 0 ∨ r = 1) → Q (some (.int r)) S μ)) : gw_ok l x (d + 1) sgX10_hasBit 0 0 [.int v0, .int v1] S μ Q := by
  refine gw_ok_of stX10_hasBit (lv0 := [.int v0, .int v1]) (Nat.le_of_ble_eq_true rfl) rfl rfl ?_
  intro K hK
  have hcc : 0 ≤ 0 := Nat.zero_le _
  have hss : 0 ≤ 0 := Nat.zero_le _
  unfold F_X10_hasBit at h
  refine hK _ _ _ _ _ _ _ ?_
  rw [fdX10_hasBit_0]
  simp only [gt_nil, true_and, eq_self, gt_iload_n, gt_ink, gw_nth, gt_ishr, gt_iconst, gt_iand, gt_if, gt_goto, bkX10_hasBit_0]
  refine ⟨fun c_1 => ?_, fun c_1 => ?_⟩
  · replace h := gw_ifp h c_1
    refine hK _ _ _ _ _ _ _ ?_
    rw [fdX10_hasBit_12]
    simp only [gt_nil, true_and, eq_self, gt_iconst, bkX10_hasBit_12]
    refine hK _ _ _ _ _ _ _ ?_
    rw [fdX10_hasBit_13]
    simp only [gt_nil, true_and, eq_self, gt_iret, gt_retz, bkX10_hasBit_13]
    obtain rfl := gw_inj1 h
    exact ⟨(Or.inl rfl), hcc, hss, hq (Or.inl rfl)⟩
  · replace h := gw_ifn h c_1
    refine hK _ _ _ _ _ _ _ ?_
    rw [fdX10_hasBit_13]
    simp only [gt_nil, true_and, eq_self, gt_iret, gt_retz, bkX10_hasBit_13]
    obtain rfl := gw_inj1 h
    exact ⟨(Or.inr rfl), hcc, hss, hq (Or.inr rfl)⟩
def F_X0_awaits (n0 : Nat) (a0 : Nat) (v1 : Int32) (μ : gw_M) : Option (Int32) := (F_X10_hasBit n0 (μ a0 2) v1 μ).bind (fun (r_1 : Int32) => some r_1)
theorem ok_X0_awaits {l : Launch} {x : gw_C} {d : Nat} {S : gw_S} {Q : Option Value → gw_S → gw_M → Prop} {v1 : Int32} {a0 : Nat} {n0 : Nat} {μ : gw_M} {r} (hS0 : gw_sh S 0 a0) (h : F_X0_awaits n0 a0 v1 μ = some r) (hq : ((r = 0 ∨ r = 1) → Q (some (.int r)) S μ)) : gw_ok l x (d + 2) sgX0_awaits 0 0 [.ref a0, .int v1] S μ Q := by
  refine gw_ok_of stX0_awaits (lv0 := [.ref a0, .int v1]) (Nat.le_of_ble_eq_true rfl) rfl rfl ?_
  intro K hK
  have hcc : 0 ≤ 0 := Nat.zero_le _
  have hss : 0 ≤ 0 := Nat.zero_le _
  have ka0_0 : gw_kd S a0 = 0 := (hS0 0 _ rfl).1
  unfold F_X0_awaits at h
  refine hK _ _ _ _ _ _ _ ?_
  rw [fdX0_awaits_0]
  simp only [gt_nil, true_and, eq_self, gt_aload_n, gt_rfk, gw_nth, gt_get_r, gt_get_i, gt_get_z, gt_iload_n, gt_ink, gt_s1_0, gt_s2_0, gt_s3_0, gt_s4_0, gt_s1_1, gt_s2_1, gt_s3_1, gt_s4_1, gt_acpy, gt_iret, gt_retz, bkX0_awaits_0, ka0_0]
  obtain ⟨r_1, e_3, h⟩ := gw_bnd h
  refine ⟨rfl, 0, 0, hcc, hss, ok_X10_hasBit e_3 ?_⟩
  intro hbr_1
  simp only [gt_nil, true_and, eq_self, gt_iret, gt_retz, Option.toList, List.cons_append, List.nil_append, Nat.add_zero, ka0_0]
  obtain rfl := gw_inj1 h
  exact ⟨hbr_1, hcc, hss, hq hbr_1⟩
def F_X0_await (n0 : Nat) (a0 : Nat) (v1 : Int32) (v2 : Int32) (μ : gw_M) : Option (gw_M) := (F_X0_awaits n0 a0 v1 μ).bind (fun (r_1 : Int32) => (if ¬ r_1 = 0 then some μ else gw_let (gw_up μ a0 2 ((μ a0 2) ||| ((1 : Int32) <<< (v1 &&& 31)))) (fun (μ_6 : gw_M) => (if 0 ≤ v1 ∧ v1.toNatClampNeg < 16 then gw_let (gw_up μ_6 (a0 + 5) v1.toNatClampNeg v2) (fun (μ_8 : gw_M) => some μ_8) else none))))
theorem ok_X0_await {l : Launch} {x : gw_C} {d : Nat} {S : gw_S} {Q : Option Value → gw_S → gw_M → Prop} {v1 v2 : Int32} {a0 : Nat} {n0 : Nat} {μ : gw_M} {μ'} (hS0 : gw_sh S 0 a0) (h : F_X0_await n0 a0 v1 v2 μ = some μ') (hq : Q none S μ') : gw_ok l x (d + 3) sgX0_await 0 0 [.ref a0, .int v1, .int v2] S μ Q := by
  refine gw_ok_of stX0_await (lv0 := [.ref a0, .int v1, .int v2]) (Nat.le_of_ble_eq_true rfl) rfl rfl ?_
  intro K hK
  have hcc : 0 ≤ 0 := Nat.zero_le _
  have hss : 0 ≤ 0 := Nat.zero_le _
  have ka0_0 : gw_kd S a0 = 0 := (hS0 0 _ rfl).1
  have ra0_0_1 : gw_rf S a0 1 = a0 + 5 := (hS0 0 _ rfl).2.2 (1, 5) (by decide)
  have ka0_5 : gw_kd S (a0 + 5) = 12 := (hS0 5 _ rfl).1
  have la0_5 : gw_ln S (a0 + 5) = 16 := (hS0 5 _ rfl).2.1
  unfold F_X0_await at h
  refine hK _ _ _ _ _ _ _ ?_
  rw [fdX0_await_0]
  simp only [gt_nil, true_and, eq_self, gt_aload_n, gt_rfk, gw_nth, gt_iload_n, gt_ink, gt_v0, gt_v1, gt_v2, gt_v3, gt_v4, gt_v5, gt_if, gt_dup_i, gt_dup_r, gt_get_r, gt_get_i, gt_get_z, gt_iconst, gt_ishl, gt_ior, gt_put_i, gt_putz, gt_iastore, bkX0_await_0, ka0_0, ra0_0_1, ka0_5, la0_5]
  obtain ⟨r_1, e_3, h⟩ := gw_bnd h
  refine ⟨rfl, 0, 0, hcc, hss, ok_X0_awaits hS0 e_3 ?_⟩
  intro hbr_1
  simp only [gt_nil, true_and, eq_self, gt_if, gt_aload_n, gt_rfk, gw_nth, gt_dup_i, gt_dup_r, gt_get_r, gt_get_i, gt_get_z, gt_iconst, gt_iload_n, gt_ink, gt_ishl, gt_ior, gt_put_i, gt_putz, gt_iastore, Option.toList, List.cons_append, List.nil_append, Nat.add_zero, ka0_0, ra0_0_1, ka0_5, la0_5]
  refine ⟨fun c_5 => ?_, fun c_5 => ?_⟩
  · replace h := gw_ifp h c_5
    refine hK _ _ _ _ _ _ _ ?_
    rw [fdX0_await_27]
    simp only [gt_nil, true_and, eq_self, gt_vret, bkX0_await_27, ka0_0, ra0_0_1, ka0_5, la0_5]
    obtain rfl := gw_inj1 h
    exact ⟨hcc, hss, hq⟩
  · replace h := gw_ifn h c_5
    obtain ⟨μ_6, hμ_6, h⟩ := gw_lt h
    try rw [← hμ_6]
    obtain ⟨c_7, h⟩ := gw_ife h
    refine ⟨c_7, ?_⟩
    obtain ⟨μ_8, hμ_8, h⟩ := gw_lt h
    try rw [← hμ_8]
    refine hK _ _ _ _ _ _ _ ?_
    rw [fdX0_await_27]
    simp only [gt_nil, true_and, eq_self, gt_vret, bkX0_await_27, ka0_0, ra0_0_1, ka0_5, la0_5]
    obtain rfl := gw_inj1 h
    exact ⟨hcc, hss, hq⟩
def F_X10_greatestOf_3 (n0 : Nat) : Nat → Int32 → Int32 → gw_M → Option (Int32)
  | 0, _, _, _ => none
  | n + 1, v0, v1, μ => (if v1 < 0 then some (-1) else (if ((v0 >>> (v1 &&& 31)) &&& (1 : Int32)) = 0 then gw_let (v1 + (-1)) (fun (w_3 : Int32) => F_X10_greatestOf_3 n0 n v0 w_3 μ) else some v1))
def F_X10_greatestOf (n0 : Nat) (v0 : Int32) (μ : gw_M) : Option (Int32) := F_X10_greatestOf_3 n0 n0 v0 15 μ
theorem B_X10_greatestOf_3 {l : Launch} {x : gw_C} {d : Nat} {S : gw_S} {Q : Option Value → gw_S → gw_M → Prop} {K : Nat → gw_Kt} {mc ms cc ss : Nat} (hcc : cc ≤ mc) (hss : ss ≤ ms) (hK : gw_cl l x (d + 0) mc ms bsX10_greatestOf Q K) {n0 : Nat} : ∀ {n : Nat} {v0 v1} {μ : gw_M} {r}, F_X10_greatestOf_3 n0 n v0 v1 μ = some r → Q (some (.int r)) S μ → K 3 [.int v0, .int v1] [] S μ cc ss := by
  intro n
  induction n with
  | zero => intro v0 v1 μ r h hq; simp [F_X10_greatestOf_3] at h
  | succ n ih =>
    intro v0 v1 μ r h hq
    simp only [F_X10_greatestOf_3] at h
    refine hK _ _ _ _ _ _ _ ?_
    rw [fdX10_greatestOf_3]
    simp only [gt_nil, true_and, eq_self, gt_iload_n, gt_ink, gw_nth, gt_if, gt_ishr, gt_iconst, gt_iand, gt_iret, gt_retz, bkX10_greatestOf_3]
    refine ⟨fun c_1 => ?_, fun c_1 => ?_⟩
    · replace h := gw_ifp h c_1
      refine hK _ _ _ _ _ _ _ ?_
      rw [fdX10_greatestOf_23]
      simp only [gt_nil, true_and, eq_self, gt_iconst, gt_iret, gt_retz, bkX10_greatestOf_23]
      obtain rfl := gw_inj1 h
      exact ⟨hcc, hss, hq⟩
    · replace h := gw_ifn h c_1
      refine ⟨fun c_2 => ?_, fun c_2 => ?_⟩
      · replace h := gw_ifp h c_2
        refine hK _ _ _ _ _ _ _ ?_
        rw [fdX10_greatestOf_17]
        simp only [gt_nil, true_and, eq_self, gt_iinc, gt_ink, gw_nth, gw_set, gt_goto, bkX10_greatestOf_17]
        obtain ⟨w_3, hw_3, h⟩ := gw_lt h
        try rw [← hw_3]
        exact ih h hq
      · replace h := gw_ifn h c_2
        obtain rfl := gw_inj1 h
        exact ⟨hcc, hss, hq⟩
theorem ok_X10_greatestOf {l : Launch} {x : gw_C} {d : Nat} {S : gw_S} {Q : Option Value → gw_S → gw_M → Prop} {v0 : Int32} {n0 : Nat} {μ : gw_M} {r} (h : F_X10_greatestOf n0 v0 μ = some r) (hq : Q (some (.int r)) S μ) : gw_ok l x (d + 1) sgX10_greatestOf 0 0 [.int v0] S μ Q := by
  refine gw_ok_of stX10_greatestOf (lv0 := [.int v0, .retAddr 0]) (Nat.le_of_ble_eq_true rfl) rfl rfl ?_
  intro K hK
  have hcc : 0 ≤ 0 := Nat.zero_le _
  have hss : 0 ≤ 0 := Nat.zero_le _
  unfold F_X10_greatestOf at h
  refine hK _ _ _ _ _ _ _ ?_
  rw [fdX10_greatestOf_0]
  simp only [gt_nil, true_and, eq_self, gt_bipush, gt_istore_n, gw_set, bkX10_greatestOf_0]
  exact B_X10_greatestOf_3 hcc hss hK h hq
def F_X0_ready (n0 : Nat) (a0 : Nat) (μ : gw_M) : Option (Int32) := (if (μ a0 4) = 0 then some (-1) else (if ¬ (μ a0 2) = 0 then (F_X10_greatestOf n0 (μ a0 2) μ).bind (fun (r_3 : Int32) => (F_X10_greatestOf n0 (μ a0 3) μ).bind (fun (r_7 : Int32) => (if r_3 ≤ r_7 then some (-1) else some r_3))) else some (-1)))
theorem ok_X0_ready {l : Launch} {x : gw_C} {d : Nat} {S : gw_S} {Q : Option Value → gw_S → gw_M → Prop} {a0 : Nat} {n0 : Nat} {μ : gw_M} {r} (hS0 : gw_sh S 0 a0) (h : F_X0_ready n0 a0 μ = some r) (hq : Q (some (.int r)) S μ) : gw_ok l x (d + 2) sgX0_ready 0 0 [.ref a0] S μ Q := by
  refine gw_ok_of stX0_ready (lv0 := [.ref a0, .retAddr 0]) (Nat.le_of_ble_eq_true rfl) rfl rfl ?_
  intro K hK
  have hcc : 0 ≤ 0 := Nat.zero_le _
  have hss : 0 ≤ 0 := Nat.zero_le _
  have ka0_0 : gw_kd S a0 = 0 := (hS0 0 _ rfl).1
  unfold F_X0_ready at h
  refine hK _ _ _ _ _ _ _ ?_
  rw [fdX0_ready_0]
  simp only [gt_nil, true_and, eq_self, gt_aload_n, gt_rfk, gw_nth, gt_get_r, gt_get_i, gt_get_z, gt_if, bkX0_ready_0, ka0_0]
  refine ⟨fun c_1 => ?_, fun c_1 => ?_⟩
  · replace h := gw_ifp h c_1
    refine hK _ _ _ _ _ _ _ ?_
    rw [fdX0_ready_14]
    simp only [gt_nil, true_and, eq_self, gt_iconst, gt_iret, gt_retz, bkX0_ready_14, ka0_0]
    obtain rfl := gw_inj1 h
    exact ⟨hcc, hss, hq⟩
  · replace h := gw_ifn h c_1
    refine ⟨fun c_2 => ?_, fun c_2 => ?_⟩
    · replace h := gw_ifp h c_2
      refine hK _ _ _ _ _ _ _ ?_
      rw [fdX0_ready_16]
      simp only [gt_nil, true_and, eq_self, gt_aload_n, gt_rfk, gw_nth, gt_get_r, gt_get_i, gt_get_z, gt_s1_0, gt_s2_0, gt_s3_0, gt_s4_0, gt_s1_1, gt_s2_1, gt_s3_1, gt_s4_1, gt_acpy, gt_istore_n, gw_set, gt_iload_n, gt_ink, gt_icmp, gt_goto, bkX0_ready_16, ka0_0]
      obtain ⟨r_3, e_5, h⟩ := gw_bnd h
      refine ⟨rfl, 0, 0, hcc, hss, ok_X10_greatestOf e_5 ?_⟩
      simp only [gt_nil, true_and, eq_self, gt_istore_n, gw_set, gt_iload_n, gt_ink, gw_nth, gt_aload_n, gt_rfk, gt_get_r, gt_get_i, gt_get_z, gt_s1_0, gt_s2_0, gt_s3_0, gt_s4_0, gt_s1_1, gt_s2_1, gt_s3_1, gt_s4_1, gt_acpy, gt_icmp, gt_goto, Option.toList, List.cons_append, List.nil_append, Nat.add_zero, ka0_0]
      obtain ⟨r_7, e_9, h⟩ := gw_bnd h
      refine ⟨rfl, 0, 0, hcc, hss, ok_X10_greatestOf e_9 ?_⟩
      simp only [gt_nil, true_and, eq_self, gt_icmp, gt_iload_n, gt_ink, gw_nth, gt_goto, Option.toList, List.cons_append, List.nil_append, Nat.add_zero, ka0_0]
      refine ⟨fun c_11 => ?_, fun c_11 => ?_⟩
      · replace h := gw_ifp2 (gw_c2_le _ _) h c_11
        refine hK _ _ _ _ _ _ _ ?_
        rw [fdX0_ready_39]
        simp only [gt_nil, true_and, eq_self, gt_iconst, bkX0_ready_39, ka0_0]
        refine hK _ _ _ _ _ _ _ ?_
        rw [fdX0_ready_40]
        simp only [gt_nil, true_and, eq_self, gt_iret, gt_retz, bkX0_ready_40, ka0_0]
        obtain rfl := gw_inj1 h
        exact ⟨hcc, hss, hq⟩
      · replace h := gw_ifn2 (gw_c2_le _ _) h c_11
        refine hK _ _ _ _ _ _ _ ?_
        rw [fdX0_ready_40]
        simp only [gt_nil, true_and, eq_self, gt_iret, gt_retz, bkX0_ready_40, ka0_0]
        obtain rfl := gw_inj1 h
        exact ⟨hcc, hss, hq⟩
    · replace h := gw_ifn h c_2
      refine hK _ _ _ _ _ _ _ ?_
      rw [fdX0_ready_14]
      simp only [gt_nil, true_and, eq_self, gt_iconst, gt_iret, gt_retz, bkX0_ready_14, ka0_0]
      obtain rfl := gw_inj1 h
      exact ⟨hcc, hss, hq⟩
def F_X0_take (n0 : Nat) (a0 : Nat) (v1 : Int32) (v2 : Int32) (μ : gw_M) : Option (Int32 × gw_M) := gw_let (gw_up μ a0 2 ((μ a0 2) &&& (((1 : Int32) <<< (v1 &&& 31)) ^^^ ((-1) : Int32)))) (fun (μ_1 : gw_M) => gw_let (gw_up μ_1 a0 3 ((μ_1 a0 3) ||| ((1 : Int32) <<< (v1 &&& 31)))) (fun (μ_2 : gw_M) => (if 0 ≤ v1 ∧ v1.toNatClampNeg < 16 then some ((v2 - (μ_2 (a0 + 5) v1.toNatClampNeg)), μ_2) else none)))
theorem ok_X0_take {l : Launch} {x : gw_C} {d : Nat} {S : gw_S} {Q : Option Value → gw_S → gw_M → Prop} {v1 v2 : Int32} {a0 : Nat} {n0 : Nat} {μ : gw_M} {r μ'} (hS0 : gw_sh S 0 a0) (h : F_X0_take n0 a0 v1 v2 μ = some (r, μ')) (hq : Q (some (.int r)) S μ') : gw_ok l x (d + 1) sgX0_take 0 0 [.ref a0, .int v1, .int v2] S μ Q := by
  refine gw_ok_of stX0_take (lv0 := [.ref a0, .int v1, .int v2]) (Nat.le_of_ble_eq_true rfl) rfl rfl ?_
  intro K hK
  have hcc : 0 ≤ 0 := Nat.zero_le _
  have hss : 0 ≤ 0 := Nat.zero_le _
  have ka0_0 : gw_kd S a0 = 0 := (hS0 0 _ rfl).1
  have ra0_0_1 : gw_rf S a0 1 = a0 + 5 := (hS0 0 _ rfl).2.2 (1, 5) (by decide)
  have ka0_5 : gw_kd S (a0 + 5) = 12 := (hS0 5 _ rfl).1
  have la0_5 : gw_ln S (a0 + 5) = 16 := (hS0 5 _ rfl).2.1
  unfold F_X0_take at h
  refine hK _ _ _ _ _ _ _ ?_
  rw [fdX0_take_0]
  simp only [gt_nil, true_and, eq_self, gt_aload_n, gt_rfk, gw_nth, gt_dup_i, gt_dup_r, gt_get_r, gt_get_i, gt_get_z, gt_iconst, gt_iload_n, gt_ink, gt_ishl, gt_ixor, gt_iand, gt_put_i, gt_putz, gt_ior, gt_iaload, gt_isub, gt_iret, gt_retz, bkX0_take_0, ka0_0, ra0_0_1, ka0_5, la0_5]
  obtain ⟨μ_1, hμ_1, h⟩ := gw_lt h
  try rw [← hμ_1]
  obtain ⟨μ_2, hμ_2, h⟩ := gw_lt h
  try rw [← hμ_2]
  obtain ⟨c_3, h⟩ := gw_ife h
  refine ⟨c_3, ?_⟩
  obtain ⟨rfl, rfl⟩ := gw_inj2 h
  exact ⟨hcc, hss, hq⟩
def F_X0_endService (n0 : Nat) (a0 : Nat) (μ : gw_M) : Option (Int32 × gw_M) := (F_X10_greatestOf n0 (μ a0 3) μ).bind (fun (r_1 : Int32) => (if r_1 = (-1) then some (r_1, μ) else gw_let (gw_up μ a0 3 ((μ a0 3) &&& (((1 : Int32) <<< (r_1 &&& 31)) ^^^ ((-1) : Int32)))) (fun (μ_6 : gw_M) => some (r_1, μ_6))))
theorem ok_X0_endService {l : Launch} {x : gw_C} {d : Nat} {S : gw_S} {Q : Option Value → gw_S → gw_M → Prop} {a0 : Nat} {n0 : Nat} {μ : gw_M} {r μ'} (hS0 : gw_sh S 0 a0) (h : F_X0_endService n0 a0 μ = some (r, μ')) (hq : Q (some (.int r)) S μ') : gw_ok l x (d + 2) sgX0_endService 0 0 [.ref a0] S μ Q := by
  refine gw_ok_of stX0_endService (lv0 := [.ref a0, .retAddr 0]) (Nat.le_of_ble_eq_true rfl) rfl rfl ?_
  intro K hK
  have hcc : 0 ≤ 0 := Nat.zero_le _
  have hss : 0 ≤ 0 := Nat.zero_le _
  have ka0_0 : gw_kd S a0 = 0 := (hS0 0 _ rfl).1
  unfold F_X0_endService at h
  refine hK _ _ _ _ _ _ _ ?_
  rw [fdX0_endService_0]
  simp only [gt_nil, true_and, eq_self, gt_aload_n, gt_rfk, gw_nth, gt_get_r, gt_get_i, gt_get_z, gt_s1_0, gt_s2_0, gt_s3_0, gt_s4_0, gt_s1_1, gt_s2_1, gt_s3_1, gt_s4_1, gt_acpy, gt_istore_n, gw_set, gt_iload_n, gt_ink, gt_iconst, gt_icmp, gt_dup_i, gt_dup_r, gt_ishl, gt_ixor, gt_iand, gt_put_i, gt_putz, bkX0_endService_0, ka0_0]
  obtain ⟨r_1, e_3, h⟩ := gw_bnd h
  refine ⟨rfl, 0, 0, hcc, hss, ok_X10_greatestOf e_3 ?_⟩
  simp only [gt_nil, true_and, eq_self, gt_istore_n, gw_set, gt_iload_n, gt_ink, gw_nth, gt_iconst, gt_icmp, gt_aload_n, gt_rfk, gt_dup_i, gt_dup_r, gt_get_r, gt_get_i, gt_get_z, gt_ishl, gt_ixor, gt_iand, gt_put_i, gt_putz, Option.toList, List.cons_append, List.nil_append, Nat.add_zero, ka0_0]
  refine ⟨fun c_5 => ?_, fun c_5 => ?_⟩
  · replace h := gw_ifp2 (gw_c2_eq _ _) h c_5
    refine hK _ _ _ _ _ _ _ ?_
    rw [fdX0_endService_27]
    simp only [gt_nil, true_and, eq_self, gt_iload_n, gt_ink, gw_nth, gt_iret, gt_retz, bkX0_endService_27, ka0_0]
    obtain ⟨rfl, rfl⟩ := gw_inj2 h
    exact ⟨hcc, hss, hq⟩
  · replace h := gw_ifn2 (gw_c2_eq _ _) h c_5
    obtain ⟨μ_6, hμ_6, h⟩ := gw_lt h
    try rw [← hμ_6]
    refine hK _ _ _ _ _ _ _ ?_
    rw [fdX0_endService_27]
    simp only [gt_nil, true_and, eq_self, gt_iload_n, gt_ink, gw_nth, gt_iret, gt_retz, bkX0_endService_27, ka0_0]
    obtain ⟨rfl, rfl⟩ := gw_inj2 h
    exact ⟨hcc, hss, hq⟩
def F_J9_floorDiv_7cf53 (n0 : Nat) (v0 : Int32) (v1 : Int32) (μ : gw_M) : Option (Int32) := (if ¬ v1 = 0 then gw_let ((v0 / v1)) (fun (w_2 : Int32) => (if 0 ≤ (v0 ^^^ v1) then some w_2 else (if (w_2 * v1) = v0 then some w_2 else some (w_2 - (1 : Int32))))) else none)
theorem ok_J9_floorDiv_7cf53 {l : Launch} {x : gw_C} {d : Nat} {S : gw_S} {Q : Option Value → gw_S → gw_M → Prop} {v0 v1 : Int32} {n0 : Nat} {μ : gw_M} {r} (h : F_J9_floorDiv_7cf53 n0 v0 v1 μ = some r) (hq : Q (some (.int r)) S μ) : gw_ok l x (d + 1) sgJ9_floorDiv_7cf53 0 0 [.int v0, .int v1] S μ Q := by
  refine gw_ok_of stJ9_floorDiv_7cf53 (lv0 := [.int v0, .int v1, .retAddr 0]) (Nat.le_of_ble_eq_true rfl) rfl rfl ?_
  intro K hK
  have hcc : 0 ≤ 0 := Nat.zero_le _
  have hss : 0 ≤ 0 := Nat.zero_le _
  unfold F_J9_floorDiv_7cf53 at h
  refine hK _ _ _ _ _ _ _ ?_
  rw [fdJ9_floorDiv_7cf53_0]
  simp only [gt_nil, true_and, eq_self, gt_iload_n, gt_ink, gw_nth, gt_idiv, gt_istore_n, gw_set, gt_ixor, gt_if, gt_imul, gt_icmp, gt_iconst, gt_isub, gt_iret, gt_retz, bkJ9_floorDiv_7cf53_0]
  obtain ⟨c_1, h⟩ := gw_ife h
  refine ⟨c_1, ?_⟩
  obtain ⟨w_2, hw_2, h⟩ := gw_lt h
  try rw [← hw_2]
  refine ⟨fun c_3 => ?_, fun c_3 => ?_⟩
  · replace h := gw_ifp h c_3
    refine hK _ _ _ _ _ _ _ ?_
    rw [fdJ9_floorDiv_7cf53_21]
    simp only [gt_nil, true_and, eq_self, gt_iload_n, gt_ink, gw_nth, gt_iret, gt_retz, bkJ9_floorDiv_7cf53_21]
    obtain rfl := gw_inj1 h
    exact ⟨hcc, hss, hq⟩
  · replace h := gw_ifn h c_3
    refine ⟨fun c_4 => ?_, fun c_4 => ?_⟩
    · replace h := gw_ifp2 (gw_c2_eq _ _) h c_4
      refine hK _ _ _ _ _ _ _ ?_
      rw [fdJ9_floorDiv_7cf53_21]
      simp only [gt_nil, true_and, eq_self, gt_iload_n, gt_ink, gw_nth, gt_iret, gt_retz, bkJ9_floorDiv_7cf53_21]
      obtain rfl := gw_inj1 h
      exact ⟨hcc, hss, hq⟩
    · replace h := gw_ifn2 (gw_c2_eq _ _) h c_4
      obtain rfl := gw_inj1 h
      exact ⟨hcc, hss, hq⟩
def F_X0_clockUpon (n0 : Nat) (a0 : Nat) (v1 : Int32) (μ : gw_M) : Option (Int32) := (F_J9_floorDiv_7cf53 n0 (v1 * (μ a0 5)) 16 μ).bind (fun (r_1 : Int32) => some (r_1 + (μ a0 6)))
theorem ok_X0_clockUpon {l : Launch} {x : gw_C} {d : Nat} {S : gw_S} {Q : Option Value → gw_S → gw_M → Prop} {v1 : Int32} {a0 : Nat} {n0 : Nat} {μ : gw_M} {r} (hS0 : gw_sh S 0 a0) (h : F_X0_clockUpon n0 a0 v1 μ = some r) (hq : Q (some (.int r)) S μ) : gw_ok l x (d + 2) sgX0_clockUpon 0 0 [.ref a0, .int v1] S μ Q := by
  refine gw_ok_of stX0_clockUpon (lv0 := [.ref a0, .int v1]) (Nat.le_of_ble_eq_true rfl) rfl rfl ?_
  intro K hK
  have hcc : 0 ≤ 0 := Nat.zero_le _
  have hss : 0 ≤ 0 := Nat.zero_le _
  have ka0_0 : gw_kd S a0 = 0 := (hS0 0 _ rfl).1
  unfold F_X0_clockUpon at h
  refine hK _ _ _ _ _ _ _ ?_
  rw [fdX0_clockUpon_0]
  simp only [gt_nil, true_and, eq_self, gt_iload_n, gt_ink, gw_nth, gt_aload_n, gt_rfk, gt_get_r, gt_get_i, gt_get_z, gt_imul, gt_bipush, gt_s1_0, gt_s2_0, gt_s3_0, gt_s4_0, gt_s1_1, gt_s2_1, gt_s3_1, gt_s4_1, gt_acpy, gt_iadd, gt_iret, gt_retz, bkX0_clockUpon_0, ka0_0]
  obtain ⟨r_1, e_3, h⟩ := gw_bnd h
  refine ⟨rfl, 0, 0, hcc, hss, ok_J9_floorDiv_7cf53 e_3 ?_⟩
  simp only [gt_nil, true_and, eq_self, gt_aload_n, gt_rfk, gw_nth, gt_get_r, gt_get_i, gt_get_z, gt_iadd, gt_iret, gt_retz, Option.toList, List.cons_append, List.nil_append, Nat.add_zero, ka0_0]
  obtain rfl := gw_inj1 h
  exact ⟨hcc, hss, hq⟩
def F_X8_copyFrom (n0 : Nat) (a0 : Nat) (p1 : Nat) (μ : gw_M) : Option (gw_M) := gw_let (gw_cpy μ (p1 + 1) (a0 + 1) 0 0 16) (fun (μ_1 : gw_M) => gw_let (gw_cpy μ_1 (p1 + 2) (a0 + 2) 0 0 16) (fun (μ_2 : gw_M) => gw_let (gw_cpy μ_2 (p1 + 3) (a0 + 3) 0 0 16) (fun (μ_3 : gw_M) => gw_let (gw_up μ_3 a0 3 (μ_3 p1 3)) (fun (μ_4 : gw_M) => some μ_4))))
theorem ok_X8_copyFrom {l : Launch} {x : gw_C} {d : Nat} {S : gw_S} {Q : Option Value → gw_S → gw_M → Prop} {a0 p1 : Nat} {n0 : Nat} {μ : gw_M} {μ'} (hS0 : gw_sh S 8 a0) (hpp1 : gw_sh S 8 p1) (h : F_X8_copyFrom n0 a0 p1 μ = some μ') (hq : Q none S μ') : gw_ok l x (d + 1) sgX8_copyFrom 0 0 [.ref a0, .ref p1] S μ Q := by
  refine gw_ok_of stX8_copyFrom (lv0 := [.ref a0, .ref p1]) (Nat.le_of_ble_eq_true rfl) rfl rfl ?_
  intro K hK
  have hcc : 0 ≤ 0 := Nat.zero_le _
  have hss : 0 ≤ 0 := Nat.zero_le _
  have ka0_0 : gw_kd S a0 = 8 := (hS0 0 _ rfl).1
  have ra0_0_0 : gw_rf S a0 0 = a0 + 1 := (hS0 0 _ rfl).2.2 (0, 1) (by decide)
  have ra0_0_1 : gw_rf S a0 1 = a0 + 2 := (hS0 0 _ rfl).2.2 (1, 2) (by decide)
  have ra0_0_2 : gw_rf S a0 2 = a0 + 3 := (hS0 0 _ rfl).2.2 (2, 3) (by decide)
  have ka0_1 : gw_kd S (a0 + 1) = 12 := (hS0 1 _ rfl).1
  have la0_1 : gw_ln S (a0 + 1) = 16 := (hS0 1 _ rfl).2.1
  have ka0_2 : gw_kd S (a0 + 2) = 12 := (hS0 2 _ rfl).1
  have la0_2 : gw_ln S (a0 + 2) = 16 := (hS0 2 _ rfl).2.1
  have ka0_3 : gw_kd S (a0 + 3) = 12 := (hS0 3 _ rfl).1
  have la0_3 : gw_ln S (a0 + 3) = 16 := (hS0 3 _ rfl).2.1
  have kp1_0 : gw_kd S p1 = 8 := (hpp1 0 _ rfl).1
  have rp1_0_0 : gw_rf S p1 0 = p1 + 1 := (hpp1 0 _ rfl).2.2 (0, 1) (by decide)
  have rp1_0_1 : gw_rf S p1 1 = p1 + 2 := (hpp1 0 _ rfl).2.2 (1, 2) (by decide)
  have rp1_0_2 : gw_rf S p1 2 = p1 + 3 := (hpp1 0 _ rfl).2.2 (2, 3) (by decide)
  have kp1_1 : gw_kd S (p1 + 1) = 12 := (hpp1 1 _ rfl).1
  have lp1_1 : gw_ln S (p1 + 1) = 16 := (hpp1 1 _ rfl).2.1
  have kp1_2 : gw_kd S (p1 + 2) = 12 := (hpp1 2 _ rfl).1
  have lp1_2 : gw_ln S (p1 + 2) = 16 := (hpp1 2 _ rfl).2.1
  have kp1_3 : gw_kd S (p1 + 3) = 12 := (hpp1 3 _ rfl).1
  have lp1_3 : gw_ln S (p1 + 3) = 16 := (hpp1 3 _ rfl).2.1
  unfold F_X8_copyFrom at h
  refine hK _ _ _ _ _ _ _ ?_
  rw [fdX8_copyFrom_0]
  simp only [gt_nil, true_and, eq_self, gt_aload_n, gt_rfk, gw_nth, gt_get_r, gt_get_i, gt_get_z, gt_iconst, gt_bipush, gt_s1_0, gt_s2_0, gt_s3_0, gt_s4_0, gt_s1_1, gt_s2_1, gt_s3_1, gt_s4_1, gt_acpy, gt_put_i, gt_putz, gt_vret, bkX8_copyFrom_0, ka0_0, ra0_0_0, ra0_0_1, ra0_0_2, ka0_1, la0_1, ka0_2, la0_2, ka0_3, la0_3, kp1_0, rp1_0_0, rp1_0_1, rp1_0_2, kp1_1, lp1_1, kp1_2, lp1_2, kp1_3, lp1_3, (show Int32.toNatClampNeg 0 = 0 from rfl), (show Int32.toNatClampNeg 16 = 16 from rfl)]
  refine ⟨by decide, by decide, by decide, by decide, by decide, ?_⟩
  obtain ⟨μ_1, hμ_1, h⟩ := gw_lt h
  try rw [← hμ_1]
  refine ⟨by decide, by decide, by decide, by decide, by decide, ?_⟩
  obtain ⟨μ_2, hμ_2, h⟩ := gw_lt h
  try rw [← hμ_2]
  refine ⟨by decide, by decide, by decide, by decide, by decide, ?_⟩
  obtain ⟨μ_3, hμ_3, h⟩ := gw_lt h
  try rw [← hμ_3]
  obtain ⟨μ_4, hμ_4, h⟩ := gw_lt h
  try rw [← hμ_4]
  obtain rfl := gw_inj1 h
  exact ⟨hcc, hss, hq⟩
def F_X1_copyFrom (n0 : Nat) (a0 : Nat) (p1 : Nat) (μ : gw_M) : Option (gw_M) := (F_X0_copyFrom n0 (a0 + 1) (p1 + 1) μ).bind (fun (μ_2 : gw_M) => (F_X8_copyFrom n0 (a0 + 7) (p1 + 7) μ_2).bind (fun (μ_6 : gw_M) => (F_X8_copyFrom n0 (a0 + 11) (p1 + 11) μ_6).bind (fun (μ_10 : gw_M) => gw_let (gw_up μ_10 a0 3 (μ_10 p1 3)) (fun (μ_13 : gw_M) => gw_let (gw_up μ_13 a0 4 (μ_13 p1 4)) (fun (μ_14 : gw_M) => gw_let (gw_up μ_14 a0 5 (μ_14 p1 5)) (fun (μ_15 : gw_M) => some μ_15))))))
theorem ok_X1_copyFrom {l : Launch} {x : gw_C} {d : Nat} {S : gw_S} {Q : Option Value → gw_S → gw_M → Prop} {a0 p1 : Nat} {n0 : Nat} {μ : gw_M} {μ'} (hS0 : gw_sh S 1 a0) (hpp1 : gw_sh S 1 p1) (h : F_X1_copyFrom n0 a0 p1 μ = some μ') (hq : Q none S μ') : gw_ok l x (d + 3) sgX1_copyFrom 0 0 [.ref a0, .ref p1] S μ Q := by
  refine gw_ok_of stX1_copyFrom (lv0 := [.ref a0, .ref p1]) (Nat.le_of_ble_eq_true rfl) rfl rfl ?_
  intro K hK
  have hcc : 0 ≤ 0 := Nat.zero_le _
  have hss : 0 ≤ 0 := Nat.zero_le _
  have ka0_0 : gw_kd S a0 = 1 := (hS0 0 _ rfl).1
  have ra0_0_0 : gw_rf S a0 0 = a0 + 1 := (hS0 0 _ rfl).2.2 (0, 1) (by decide)
  have ra0_0_1 : gw_rf S a0 1 = a0 + 7 := (hS0 0 _ rfl).2.2 (1, 7) (by decide)
  have ra0_0_2 : gw_rf S a0 2 = a0 + 11 := (hS0 0 _ rfl).2.2 (2, 11) (by decide)
  have ka0_1 : gw_kd S (a0 + 1) = 0 := (hS0 1 _ rfl).1
  have ka0_11 : gw_kd S (a0 + 11) = 8 := (hS0 11 _ rfl).1
  have ka0_7 : gw_kd S (a0 + 7) = 8 := (hS0 7 _ rfl).1
  have kp1_0 : gw_kd S p1 = 1 := (hpp1 0 _ rfl).1
  have rp1_0_0 : gw_rf S p1 0 = p1 + 1 := (hpp1 0 _ rfl).2.2 (0, 1) (by decide)
  have rp1_0_1 : gw_rf S p1 1 = p1 + 7 := (hpp1 0 _ rfl).2.2 (1, 7) (by decide)
  have rp1_0_2 : gw_rf S p1 2 = p1 + 11 := (hpp1 0 _ rfl).2.2 (2, 11) (by decide)
  have kp1_1 : gw_kd S (p1 + 1) = 0 := (hpp1 1 _ rfl).1
  have kp1_11 : gw_kd S (p1 + 11) = 8 := (hpp1 11 _ rfl).1
  have kp1_7 : gw_kd S (p1 + 7) = 8 := (hpp1 7 _ rfl).1
  unfold F_X1_copyFrom at h
  refine hK _ _ _ _ _ _ _ ?_
  rw [fdX1_copyFrom_0]
  simp only [gt_nil, true_and, eq_self, gt_aload_n, gt_rfk, gw_nth, gt_get_r, gt_get_i, gt_get_z, gt_v0, gt_v1, gt_v2, gt_v3, gt_v4, gt_v5, gt_put_i, gt_putz, gt_vret, bkX1_copyFrom_0, ka0_0, ra0_0_0, ra0_0_1, ra0_0_2, ka0_1, ka0_11, ka0_7, kp1_0, rp1_0_0, rp1_0_1, rp1_0_2, kp1_1, kp1_11, kp1_7]
  obtain ⟨μ_2, e_3, h⟩ := gw_bnd h
  refine ⟨rfl, 0, 0, hcc, hss, ok_X0_copyFrom (gw_sub hS0 0 1 (by decide +kernel)) (gw_sub hpp1 0 1 (by decide +kernel)) e_3 ?_⟩
  simp only [gt_nil, true_and, eq_self, gt_aload_n, gt_rfk, gw_nth, gt_get_r, gt_get_i, gt_get_z, gt_v0, gt_v1, gt_v2, gt_v3, gt_v4, gt_v5, gt_put_i, gt_putz, gt_vret, Option.toList, List.cons_append, List.nil_append, Nat.add_zero, ka0_0, ra0_0_0, ra0_0_1, ra0_0_2, ka0_1, ka0_11, ka0_7, kp1_0, rp1_0_0, rp1_0_1, rp1_0_2, kp1_1, kp1_11, kp1_7]
  obtain ⟨μ_6, e_7, h⟩ := gw_bnd h
  refine ⟨rfl, 0, 0, hcc, hss, ok_X8_copyFrom (gw_sub hS0 8 7 (by decide +kernel)) (gw_sub hpp1 8 7 (by decide +kernel)) e_7 ?_⟩
  simp only [gt_nil, true_and, eq_self, gt_aload_n, gt_rfk, gw_nth, gt_get_r, gt_get_i, gt_get_z, gt_v0, gt_v1, gt_v2, gt_v3, gt_v4, gt_v5, gt_put_i, gt_putz, gt_vret, Option.toList, List.cons_append, List.nil_append, Nat.add_zero, ka0_0, ra0_0_0, ra0_0_1, ra0_0_2, ka0_1, ka0_11, ka0_7, kp1_0, rp1_0_0, rp1_0_1, rp1_0_2, kp1_1, kp1_11, kp1_7]
  obtain ⟨μ_10, e_11, h⟩ := gw_bnd h
  refine ⟨rfl, 0, 0, hcc, hss, ok_X8_copyFrom (gw_sub hS0 8 11 (by decide +kernel)) (gw_sub hpp1 8 11 (by decide +kernel)) e_11 ?_⟩
  simp only [gt_nil, true_and, eq_self, gt_aload_n, gt_rfk, gw_nth, gt_get_r, gt_get_i, gt_get_z, gt_put_i, gt_putz, gt_vret, Option.toList, List.cons_append, List.nil_append, Nat.add_zero, ka0_0, ra0_0_0, ra0_0_1, ra0_0_2, ka0_1, ka0_11, ka0_7, kp1_0, rp1_0_0, rp1_0_1, rp1_0_2, kp1_1, kp1_11, kp1_7]
  obtain ⟨μ_13, hμ_13, h⟩ := gw_lt h
  try rw [← hμ_13]
  obtain ⟨μ_14, hμ_14, h⟩ := gw_lt h
  try rw [← hμ_14]
  obtain ⟨μ_15, hμ_15, h⟩ := gw_lt h
  try rw [← hμ_15]
  obtain rfl := gw_inj1 h
  exact ⟨hcc, hss, hq⟩
def F_X7_goTo (n0 : Nat) (a0 : Nat) (v1 : Int32) (μ : gw_M) : Option (gw_M) := (if v1 < 0 then some μ else (if (μ a0 3) ≤ v1 then some μ else gw_let (gw_up μ a0 4 v1) (fun (μ_3 : gw_M) => some μ_3)))
theorem ok_X7_goTo {l : Launch} {x : gw_C} {d : Nat} {S : gw_S} {Q : Option Value → gw_S → gw_M → Prop} {v1 : Int32} {a0 : Nat} {n0 : Nat} {μ : gw_M} {μ'} (hS0 : gw_sh S 7 a0) (h : F_X7_goTo n0 a0 v1 μ = some μ') (hq : Q none S μ') : gw_ok l x (d + 1) sgX7_goTo 0 0 [.ref a0, .int v1] S μ Q := by
  refine gw_ok_of stX7_goTo (lv0 := [.ref a0, .int v1]) (Nat.le_of_ble_eq_true rfl) rfl rfl ?_
  intro K hK
  have hcc : 0 ≤ 0 := Nat.zero_le _
  have hss : 0 ≤ 0 := Nat.zero_le _
  have ka0_0 : gw_kd S a0 = 7 := (hS0 0 _ rfl).1
  unfold F_X7_goTo at h
  refine hK _ _ _ _ _ _ _ ?_
  rw [fdX7_goTo_0]
  simp only [gt_nil, true_and, eq_self, gt_iload_n, gt_ink, gw_nth, gt_if, gt_aload_n, gt_rfk, gt_get_r, gt_get_i, gt_get_z, gt_icmp, gt_put_i, gt_putz, bkX7_goTo_0, ka0_0]
  refine ⟨fun c_1 => ?_, fun c_1 => ?_⟩
  · replace h := gw_ifp h c_1
    refine hK _ _ _ _ _ _ _ ?_
    rw [fdX7_goTo_17]
    simp only [gt_nil, true_and, eq_self, gt_vret, bkX7_goTo_17, ka0_0]
    obtain rfl := gw_inj1 h
    exact ⟨hcc, hss, hq⟩
  · replace h := gw_ifn h c_1
    refine ⟨fun c_2 => ?_, fun c_2 => ?_⟩
    · replace h := gw_ifp2 (gw_c2_ge _ _) h c_2
      refine hK _ _ _ _ _ _ _ ?_
      rw [fdX7_goTo_17]
      simp only [gt_nil, true_and, eq_self, gt_vret, bkX7_goTo_17, ka0_0]
      obtain rfl := gw_inj1 h
      exact ⟨hcc, hss, hq⟩
    · replace h := gw_ifn2 (gw_c2_ge _ _) h c_2
      obtain ⟨μ_3, hμ_3, h⟩ := gw_lt h
      try rw [← hμ_3]
      refine hK _ _ _ _ _ _ _ ?_
      rw [fdX7_goTo_17]
      simp only [gt_nil, true_and, eq_self, gt_vret, bkX7_goTo_17, ka0_0]
      obtain rfl := gw_inj1 h
      exact ⟨hcc, hss, hq⟩
def F_X1_trapAt (n0 : Nat) (a0 : Nat) (v1 : Int32) (μ : gw_M) : Option (gw_M) := gw_let (gw_up μ a0 5 v1) (fun (μ_1 : gw_M) => (F_X7_goTo n0 (a0 + 2) (μ_1 a0 3) μ_1).bind (fun (μ_3 : gw_M) => some μ_3))
theorem ok_X1_trapAt {l : Launch} {x : gw_C} {d : Nat} {S : gw_S} {Q : Option Value → gw_S → gw_M → Prop} {v1 : Int32} {a0 : Nat} {n0 : Nat} {μ : gw_M} {μ'} (hS0 : gw_sh S 1 a0) (h : F_X1_trapAt n0 a0 v1 μ = some μ') (hq : Q none S μ') : gw_ok l x (d + 2) sgX1_trapAt 0 0 [.ref a0, .int v1] S μ Q := by
  refine gw_ok_of stX1_trapAt (lv0 := [.ref a0, .int v1]) (Nat.le_of_ble_eq_true rfl) rfl rfl ?_
  intro K hK
  have hcc : 0 ≤ 0 := Nat.zero_le _
  have hss : 0 ≤ 0 := Nat.zero_le _
  have ka0_0 : gw_kd S a0 = 1 := (hS0 0 _ rfl).1
  have ra0_0_0 : gw_rf S a0 0 = a0 + 1 := (hS0 0 _ rfl).2.2 (0, 1) (by decide)
  have ka0_1 : gw_kd S (a0 + 1) = 0 := (hS0 1 _ rfl).1
  have ra0_1_0 : gw_rf S (a0 + 1) 0 = a0 + 2 := (hS0 1 _ rfl).2.2 (0, 2) (by decide)
  have ka0_2 : gw_kd S (a0 + 2) = 7 := (hS0 2 _ rfl).1
  unfold F_X1_trapAt at h
  refine hK _ _ _ _ _ _ _ ?_
  rw [fdX1_trapAt_0]
  simp only [gt_nil, true_and, eq_self, gt_aload_n, gt_rfk, gw_nth, gt_iload_n, gt_ink, gt_put_i, gt_putz, gt_get_r, gt_get_i, gt_get_z, gt_v0, gt_v1, gt_v2, gt_v3, gt_v4, gt_v5, gt_vret, bkX1_trapAt_0, ka0_0, ra0_0_0, ka0_1, ra0_1_0, ka0_2]
  obtain ⟨μ_1, hμ_1, h⟩ := gw_lt h
  try rw [← hμ_1]
  obtain ⟨μ_3, e_4, h⟩ := gw_bnd h
  refine ⟨rfl, 0, 0, hcc, hss, ok_X7_goTo (gw_sub hS0 7 2 (by decide +kernel)) e_4 ?_⟩
  simp only [gt_nil, true_and, eq_self, gt_vret, Option.toList, List.cons_append, List.nil_append, Nat.add_zero, ka0_0, ra0_0_0, ka0_1, ra0_1_0, ka0_2]
  obtain rfl := gw_inj1 h
  exact ⟨hcc, hss, hq⟩
def F_X8_put (n0 : Nat) (a0 : Nat) (v1 : Int32) (v2 : Int32) (v3 : Int32) (μ : gw_M) : Option (gw_M) := (if 0 ≤ v1 ∧ v1.toNatClampNeg < 16 then gw_let (gw_up μ (a0 + 1) v1.toNatClampNeg v2) (fun (μ_2 : gw_M) => (if 0 ≤ v1 ∧ v1.toNatClampNeg < 16 then gw_let (gw_up μ_2 (a0 + 2) v1.toNatClampNeg v3) (fun (μ_4 : gw_M) => (if 0 ≤ v1 ∧ v1.toNatClampNeg < 16 then gw_let (gw_up μ_4 (a0 + 3) v1.toNatClampNeg (μ_4 a0 3)) (fun (μ_6 : gw_M) => gw_let (gw_up μ_6 a0 3 ((μ_6 a0 3) + (1 : Int32))) (fun (μ_7 : gw_M) => some μ_7)) else none)) else none)) else none)
theorem ok_X8_put {l : Launch} {x : gw_C} {d : Nat} {S : gw_S} {Q : Option Value → gw_S → gw_M → Prop} {v1 v2 v3 : Int32} {a0 : Nat} {n0 : Nat} {μ : gw_M} {μ'} (hS0 : gw_sh S 8 a0) (h : F_X8_put n0 a0 v1 v2 v3 μ = some μ') (hq : Q none S μ') : gw_ok l x (d + 1) sgX8_put 0 0 [.ref a0, .int v1, .int v2, .int v3] S μ Q := by
  refine gw_ok_of stX8_put (lv0 := [.ref a0, .int v1, .int v2, .int v3]) (Nat.le_of_ble_eq_true rfl) rfl rfl ?_
  intro K hK
  have hcc : 0 ≤ 0 := Nat.zero_le _
  have hss : 0 ≤ 0 := Nat.zero_le _
  have ka0_0 : gw_kd S a0 = 8 := (hS0 0 _ rfl).1
  have ra0_0_0 : gw_rf S a0 0 = a0 + 1 := (hS0 0 _ rfl).2.2 (0, 1) (by decide)
  have ra0_0_1 : gw_rf S a0 1 = a0 + 2 := (hS0 0 _ rfl).2.2 (1, 2) (by decide)
  have ra0_0_2 : gw_rf S a0 2 = a0 + 3 := (hS0 0 _ rfl).2.2 (2, 3) (by decide)
  have ka0_1 : gw_kd S (a0 + 1) = 12 := (hS0 1 _ rfl).1
  have la0_1 : gw_ln S (a0 + 1) = 16 := (hS0 1 _ rfl).2.1
  have ka0_2 : gw_kd S (a0 + 2) = 12 := (hS0 2 _ rfl).1
  have la0_2 : gw_ln S (a0 + 2) = 16 := (hS0 2 _ rfl).2.1
  have ka0_3 : gw_kd S (a0 + 3) = 12 := (hS0 3 _ rfl).1
  have la0_3 : gw_ln S (a0 + 3) = 16 := (hS0 3 _ rfl).2.1
  unfold F_X8_put at h
  refine hK _ _ _ _ _ _ _ ?_
  rw [fdX8_put_0]
  simp only [gt_nil, true_and, eq_self, gt_aload_n, gt_rfk, gw_nth, gt_get_r, gt_get_i, gt_get_z, gt_iload_n, gt_ink, gt_iastore, gt_dup_i, gt_dup_r, gt_iconst, gt_iadd, gt_put_i, gt_putz, gt_vret, bkX8_put_0, ka0_0, ra0_0_0, ra0_0_1, ra0_0_2, ka0_1, la0_1, ka0_2, la0_2, ka0_3, la0_3]
  obtain ⟨c_1, h⟩ := gw_ife h
  refine ⟨c_1, ?_⟩
  obtain ⟨μ_2, hμ_2, h⟩ := gw_lt h
  try rw [← hμ_2]
  obtain ⟨c_3, h⟩ := gw_ife h
  refine ⟨c_3, ?_⟩
  obtain ⟨μ_4, hμ_4, h⟩ := gw_lt h
  try rw [← hμ_4]
  obtain ⟨c_5, h⟩ := gw_ife h
  refine ⟨c_5, ?_⟩
  obtain ⟨μ_6, hμ_6, h⟩ := gw_lt h
  try rw [← hμ_6]
  obtain ⟨μ_7, hμ_7, h⟩ := gw_lt h
  try rw [← hμ_7]
  obtain rfl := gw_inj1 h
  exact ⟨hcc, hss, hq⟩
def F_X1_actAlone_51 (n0 : Nat) (a0 : Nat) (v1 : Int32) (μ : gw_M) : Option (gw_M) := (if ¬ v1 = 9 then some μ else (F_X7_goTo n0 (a0 + 2) (μ a0 5) μ).bind (fun (μ_3 : gw_M) => some μ_3))
def F_X1_actAlone (n0 : Nat) (a0 : Nat) (v1 : Int32) (v2 : Int32) (v3 : Int32) (μ : gw_M) : Option (gw_M) := (if ¬ v1 = 6 then (if ¬ v1 = 8 then F_X1_actAlone_51 n0 a0 v1 μ else (if (μ a0 4) = (-1) then F_X1_actAlone_51 n0 a0 v1 μ else (F_X8_put n0 (a0 + 7) (μ a0 4) v2 7 μ).bind (fun (μ_5 : gw_M) => some μ_5))) else (F_X8_put n0 (a0 + 7) v2 v3 7 μ).bind (fun (μ_9 : gw_M) => some μ_9))
theorem B_X1_actAlone_51 {l : Launch} {x : gw_C} {d : Nat} {S : gw_S} {Q : Option Value → gw_S → gw_M → Prop} {K : Nat → gw_Kt} {mc ms cc ss : Nat} (hcc : cc ≤ mc) (hss : ss ≤ ms) (hK : gw_cl l x (d + 1) mc ms bsX1_actAlone Q K) {a0 : Nat} (hS0 : gw_sh S 1 a0) {n0 : Nat} {v1} {u2 u3 : Value} {μ : gw_M} {μ'} (h : F_X1_actAlone_51 n0 a0 v1 μ = some μ') (hq : Q none S μ') : K 51 [.ref a0, .int v1, u2, u3] [] S μ cc ss := by
  have ka0_0 : gw_kd S a0 = 1 := (hS0 0 _ rfl).1
  have ra0_0_0 : gw_rf S a0 0 = a0 + 1 := (hS0 0 _ rfl).2.2 (0, 1) (by decide)
  have ka0_1 : gw_kd S (a0 + 1) = 0 := (hS0 1 _ rfl).1
  have ra0_1_0 : gw_rf S (a0 + 1) 0 = a0 + 2 := (hS0 1 _ rfl).2.2 (0, 2) (by decide)
  have ka0_2 : gw_kd S (a0 + 2) = 7 := (hS0 2 _ rfl).1
  unfold F_X1_actAlone_51 at h
  refine hK _ _ _ _ _ _ _ ?_
  rw [fdX1_actAlone_51]
  simp only [gt_nil, true_and, eq_self, gt_iload_n, gt_ink, gw_nth, gt_bipush, gt_icmp, gt_aload_n, gt_rfk, gt_get_r, gt_get_i, gt_get_z, gt_v0, gt_v1, gt_v2, gt_v3, gt_v4, gt_v5, bkX1_actAlone_51, ka0_0, ra0_0_0, ka0_1, ra0_1_0, ka0_2]
  refine ⟨fun c_1 => ?_, fun c_1 => ?_⟩
  · replace h := gw_ifp2 (gw_c2_ne _ _) h c_1
    refine hK _ _ _ _ _ _ _ ?_
    rw [fdX1_actAlone_71]
    simp only [gt_nil, true_and, eq_self, gt_vret, bkX1_actAlone_71, ka0_0, ra0_0_0, ka0_1, ra0_1_0, ka0_2]
    obtain rfl := gw_inj1 h
    exact ⟨hcc, hss, hq⟩
  · replace h := gw_ifn2 (gw_c2_ne _ _) h c_1
    obtain ⟨μ_3, e_4, h⟩ := gw_bnd h
    refine ⟨rfl, 0, 0, hcc, hss, ok_X7_goTo (gw_sub hS0 7 2 (by decide +kernel)) e_4 ?_⟩
    simp only [gt_nil, true_and, eq_self, Option.toList, List.cons_append, List.nil_append, Nat.add_zero, ka0_0, ra0_0_0, ka0_1, ra0_1_0, ka0_2]
    refine hK _ _ _ _ _ _ _ ?_
    rw [fdX1_actAlone_71]
    simp only [gt_nil, true_and, eq_self, gt_vret, bkX1_actAlone_71, ka0_0, ra0_0_0, ka0_1, ra0_1_0, ka0_2]
    obtain rfl := gw_inj1 h
    exact ⟨hcc, hss, hq⟩
theorem ok_X1_actAlone {l : Launch} {x : gw_C} {d : Nat} {S : gw_S} {Q : Option Value → gw_S → gw_M → Prop} {v1 v2 v3 : Int32} {a0 : Nat} {n0 : Nat} {μ : gw_M} {μ'} (hS0 : gw_sh S 1 a0) (h : F_X1_actAlone n0 a0 v1 v2 v3 μ = some μ') (hq : Q none S μ') : gw_ok l x (d + 2) sgX1_actAlone 0 0 [.ref a0, .int v1, .int v2, .int v3] S μ Q := by
  refine gw_ok_of stX1_actAlone (lv0 := [.ref a0, .int v1, .int v2, .int v3]) (Nat.le_of_ble_eq_true rfl) rfl rfl ?_
  intro K hK
  have hcc : 0 ≤ 0 := Nat.zero_le _
  have hss : 0 ≤ 0 := Nat.zero_le _
  have ka0_0 : gw_kd S a0 = 1 := (hS0 0 _ rfl).1
  have ra0_0_1 : gw_rf S a0 1 = a0 + 7 := (hS0 0 _ rfl).2.2 (1, 7) (by decide)
  have ka0_7 : gw_kd S (a0 + 7) = 8 := (hS0 7 _ rfl).1
  unfold F_X1_actAlone at h
  refine hK _ _ _ _ _ _ _ ?_
  rw [fdX1_actAlone_0]
  simp only [gt_nil, true_and, eq_self, gt_iload_n, gt_ink, gw_nth, gt_bipush, gt_icmp, gt_aload_n, gt_rfk, gt_get_r, gt_get_i, gt_get_z, gt_v0, gt_v1, gt_v2, gt_v3, gt_v4, gt_v5, gt_goto, bkX1_actAlone_0, ka0_0, ra0_0_1, ka0_7]
  refine ⟨fun c_1 => ?_, fun c_1 => ?_⟩
  · replace h := gw_ifp2 (gw_c2_ne _ _) h c_1
    refine hK _ _ _ _ _ _ _ ?_
    rw [fdX1_actAlone_20]
    simp only [gt_nil, true_and, eq_self, gt_iload_n, gt_ink, gw_nth, gt_bipush, gt_icmp, gt_aload_n, gt_rfk, gt_get_r, gt_get_i, gt_get_z, gt_iconst, gt_v0, gt_v1, gt_v2, gt_v3, gt_v4, gt_v5, gt_goto, bkX1_actAlone_20, ka0_0, ra0_0_1, ka0_7]
    refine ⟨fun c_2 => ?_, fun c_2 => ?_⟩
    · replace h := gw_ifp2 (gw_c2_ne _ _) h c_2
      exact B_X1_actAlone_51 hcc hss hK hS0 h hq
    · replace h := gw_ifn2 (gw_c2_ne _ _) h c_2
      refine ⟨fun c_3 => ?_, fun c_3 => ?_⟩
      · replace h := gw_ifp2 (gw_c2_eq _ _) h c_3
        exact B_X1_actAlone_51 hcc hss hK hS0 h hq
      · replace h := gw_ifn2 (gw_c2_eq _ _) h c_3
        obtain ⟨μ_5, e_6, h⟩ := gw_bnd h
        refine ⟨rfl, 0, 0, hcc, hss, ok_X8_put (gw_sub hS0 8 7 (by decide +kernel)) e_6 ?_⟩
        simp only [gt_nil, true_and, eq_self, gt_goto, Option.toList, List.cons_append, List.nil_append, Nat.add_zero, ka0_0, ra0_0_1, ka0_7]
        refine hK _ _ _ _ _ _ _ ?_
        rw [fdX1_actAlone_71]
        simp only [gt_nil, true_and, eq_self, gt_vret, bkX1_actAlone_71, ka0_0, ra0_0_1, ka0_7]
        obtain rfl := gw_inj1 h
        exact ⟨hcc, hss, hq⟩
  · replace h := gw_ifn2 (gw_c2_ne _ _) h c_1
    obtain ⟨μ_9, e_10, h⟩ := gw_bnd h
    refine ⟨rfl, 0, 0, hcc, hss, ok_X8_put (gw_sub hS0 8 7 (by decide +kernel)) e_10 ?_⟩
    simp only [gt_nil, true_and, eq_self, gt_goto, Option.toList, List.cons_append, List.nil_append, Nat.add_zero, ka0_0, ra0_0_1, ka0_7]
    refine hK _ _ _ _ _ _ _ ?_
    rw [fdX1_actAlone_71]
    simp only [gt_nil, true_and, eq_self, gt_vret, bkX1_actAlone_71, ka0_0, ra0_0_1, ka0_7]
    obtain rfl := gw_inj1 h
    exact ⟨hcc, hss, hq⟩
def F_X2_copyFrom (n0 : Nat) (a0 : Nat) (p1 : Nat) (μ : gw_M) : Option (gw_M) := gw_let (gw_cpy μ (p1 + 1) (a0 + 1) 0 0 24) (fun (μ_1 : gw_M) => gw_let (gw_cpy μ_1 (p1 + 2) (a0 + 2) 0 0 24) (fun (μ_2 : gw_M) => gw_let (gw_cpy μ_2 (p1 + 3) (a0 + 3) 0 0 24) (fun (μ_3 : gw_M) => gw_let (gw_cpy μ_3 (p1 + 4) (a0 + 4) 0 0 24) (fun (μ_4 : gw_M) => gw_let (gw_cpy μ_4 (p1 + 5) (a0 + 5) 0 0 2) (fun (μ_5 : gw_M) => gw_let (gw_up μ_5 a0 5 (μ_5 p1 5)) (fun (μ_6 : gw_M) => gw_let (gw_up μ_6 a0 6 (μ_6 p1 6)) (fun (μ_7 : gw_M) => gw_let (gw_cpy μ_7 (p1 + 6) (a0 + 6) 0 0 24) (fun (μ_8 : gw_M) => gw_let (gw_up μ_8 a0 8 (μ_8 p1 8)) (fun (μ_9 : gw_M) => gw_let (gw_up μ_9 a0 9 (μ_9 p1 9)) (fun (μ_10 : gw_M) => gw_let (gw_cpy μ_10 (p1 + 7) (a0 + 7) 0 0 24) (fun (μ_11 : gw_M) => gw_let (gw_cpy μ_11 (p1 + 8) (a0 + 8) 0 0 4) (fun (μ_12 : gw_M) => gw_let (gw_cpy μ_12 (p1 + 9) (a0 + 9) 0 0 2) (fun (μ_13 : gw_M) => gw_let (gw_cpy μ_13 (p1 + 10) (a0 + 10) 0 0 2) (fun (μ_14 : gw_M) => gw_let (gw_cpy μ_14 (p1 + 11) (a0 + 11) 0 0 2) (fun (μ_15 : gw_M) => some μ_15)))))))))))))))
theorem ok_X2_copyFrom {l : Launch} {x : gw_C} {d : Nat} {S : gw_S} {Q : Option Value → gw_S → gw_M → Prop} {a0 p1 : Nat} {n0 : Nat} {μ : gw_M} {μ'} (hS0 : gw_sh S 2 a0) (hpp1 : gw_sh S 2 p1) (h : F_X2_copyFrom n0 a0 p1 μ = some μ') (hq : Q none S μ') : gw_ok l x (d + 1) sgX2_copyFrom 0 0 [.ref a0, .ref p1] S μ Q := by
  refine gw_ok_of stX2_copyFrom (lv0 := [.ref a0, .ref p1]) (Nat.le_of_ble_eq_true rfl) rfl rfl ?_
  intro K hK
  have hcc : 0 ≤ 0 := Nat.zero_le _
  have hss : 0 ≤ 0 := Nat.zero_le _
  have ka0_0 : gw_kd S a0 = 2 := (hS0 0 _ rfl).1
  have ra0_0_0 : gw_rf S a0 0 = a0 + 1 := (hS0 0 _ rfl).2.2 (0, 1) (by decide)
  have ra0_0_1 : gw_rf S a0 1 = a0 + 2 := (hS0 0 _ rfl).2.2 (1, 2) (by decide)
  have ra0_0_10 : gw_rf S a0 10 = a0 + 7 := (hS0 0 _ rfl).2.2 (10, 7) (by decide)
  have ra0_0_11 : gw_rf S a0 11 = a0 + 8 := (hS0 0 _ rfl).2.2 (11, 8) (by decide)
  have ra0_0_12 : gw_rf S a0 12 = a0 + 9 := (hS0 0 _ rfl).2.2 (12, 9) (by decide)
  have ra0_0_13 : gw_rf S a0 13 = a0 + 10 := (hS0 0 _ rfl).2.2 (13, 10) (by decide)
  have ra0_0_14 : gw_rf S a0 14 = a0 + 11 := (hS0 0 _ rfl).2.2 (14, 11) (by decide)
  have ra0_0_2 : gw_rf S a0 2 = a0 + 3 := (hS0 0 _ rfl).2.2 (2, 3) (by decide)
  have ra0_0_3 : gw_rf S a0 3 = a0 + 4 := (hS0 0 _ rfl).2.2 (3, 4) (by decide)
  have ra0_0_4 : gw_rf S a0 4 = a0 + 5 := (hS0 0 _ rfl).2.2 (4, 5) (by decide)
  have ra0_0_7 : gw_rf S a0 7 = a0 + 6 := (hS0 0 _ rfl).2.2 (7, 6) (by decide)
  have ka0_1 : gw_kd S (a0 + 1) = 12 := (hS0 1 _ rfl).1
  have la0_1 : gw_ln S (a0 + 1) = 24 := (hS0 1 _ rfl).2.1
  have ka0_10 : gw_kd S (a0 + 10) = 12 := (hS0 10 _ rfl).1
  have la0_10 : gw_ln S (a0 + 10) = 2 := (hS0 10 _ rfl).2.1
  have ka0_11 : gw_kd S (a0 + 11) = 12 := (hS0 11 _ rfl).1
  have la0_11 : gw_ln S (a0 + 11) = 2 := (hS0 11 _ rfl).2.1
  have ka0_2 : gw_kd S (a0 + 2) = 12 := (hS0 2 _ rfl).1
  have la0_2 : gw_ln S (a0 + 2) = 24 := (hS0 2 _ rfl).2.1
  have ka0_3 : gw_kd S (a0 + 3) = 12 := (hS0 3 _ rfl).1
  have la0_3 : gw_ln S (a0 + 3) = 24 := (hS0 3 _ rfl).2.1
  have ka0_4 : gw_kd S (a0 + 4) = 12 := (hS0 4 _ rfl).1
  have la0_4 : gw_ln S (a0 + 4) = 24 := (hS0 4 _ rfl).2.1
  have ka0_5 : gw_kd S (a0 + 5) = 12 := (hS0 5 _ rfl).1
  have la0_5 : gw_ln S (a0 + 5) = 2 := (hS0 5 _ rfl).2.1
  have ka0_6 : gw_kd S (a0 + 6) = 12 := (hS0 6 _ rfl).1
  have la0_6 : gw_ln S (a0 + 6) = 24 := (hS0 6 _ rfl).2.1
  have ka0_7 : gw_kd S (a0 + 7) = 12 := (hS0 7 _ rfl).1
  have la0_7 : gw_ln S (a0 + 7) = 24 := (hS0 7 _ rfl).2.1
  have ka0_8 : gw_kd S (a0 + 8) = 12 := (hS0 8 _ rfl).1
  have la0_8 : gw_ln S (a0 + 8) = 4 := (hS0 8 _ rfl).2.1
  have ka0_9 : gw_kd S (a0 + 9) = 12 := (hS0 9 _ rfl).1
  have la0_9 : gw_ln S (a0 + 9) = 2 := (hS0 9 _ rfl).2.1
  have kp1_0 : gw_kd S p1 = 2 := (hpp1 0 _ rfl).1
  have rp1_0_0 : gw_rf S p1 0 = p1 + 1 := (hpp1 0 _ rfl).2.2 (0, 1) (by decide)
  have rp1_0_1 : gw_rf S p1 1 = p1 + 2 := (hpp1 0 _ rfl).2.2 (1, 2) (by decide)
  have rp1_0_10 : gw_rf S p1 10 = p1 + 7 := (hpp1 0 _ rfl).2.2 (10, 7) (by decide)
  have rp1_0_11 : gw_rf S p1 11 = p1 + 8 := (hpp1 0 _ rfl).2.2 (11, 8) (by decide)
  have rp1_0_12 : gw_rf S p1 12 = p1 + 9 := (hpp1 0 _ rfl).2.2 (12, 9) (by decide)
  have rp1_0_13 : gw_rf S p1 13 = p1 + 10 := (hpp1 0 _ rfl).2.2 (13, 10) (by decide)
  have rp1_0_14 : gw_rf S p1 14 = p1 + 11 := (hpp1 0 _ rfl).2.2 (14, 11) (by decide)
  have rp1_0_2 : gw_rf S p1 2 = p1 + 3 := (hpp1 0 _ rfl).2.2 (2, 3) (by decide)
  have rp1_0_3 : gw_rf S p1 3 = p1 + 4 := (hpp1 0 _ rfl).2.2 (3, 4) (by decide)
  have rp1_0_4 : gw_rf S p1 4 = p1 + 5 := (hpp1 0 _ rfl).2.2 (4, 5) (by decide)
  have rp1_0_7 : gw_rf S p1 7 = p1 + 6 := (hpp1 0 _ rfl).2.2 (7, 6) (by decide)
  have kp1_1 : gw_kd S (p1 + 1) = 12 := (hpp1 1 _ rfl).1
  have lp1_1 : gw_ln S (p1 + 1) = 24 := (hpp1 1 _ rfl).2.1
  have kp1_10 : gw_kd S (p1 + 10) = 12 := (hpp1 10 _ rfl).1
  have lp1_10 : gw_ln S (p1 + 10) = 2 := (hpp1 10 _ rfl).2.1
  have kp1_11 : gw_kd S (p1 + 11) = 12 := (hpp1 11 _ rfl).1
  have lp1_11 : gw_ln S (p1 + 11) = 2 := (hpp1 11 _ rfl).2.1
  have kp1_2 : gw_kd S (p1 + 2) = 12 := (hpp1 2 _ rfl).1
  have lp1_2 : gw_ln S (p1 + 2) = 24 := (hpp1 2 _ rfl).2.1
  have kp1_3 : gw_kd S (p1 + 3) = 12 := (hpp1 3 _ rfl).1
  have lp1_3 : gw_ln S (p1 + 3) = 24 := (hpp1 3 _ rfl).2.1
  have kp1_4 : gw_kd S (p1 + 4) = 12 := (hpp1 4 _ rfl).1
  have lp1_4 : gw_ln S (p1 + 4) = 24 := (hpp1 4 _ rfl).2.1
  have kp1_5 : gw_kd S (p1 + 5) = 12 := (hpp1 5 _ rfl).1
  have lp1_5 : gw_ln S (p1 + 5) = 2 := (hpp1 5 _ rfl).2.1
  have kp1_6 : gw_kd S (p1 + 6) = 12 := (hpp1 6 _ rfl).1
  have lp1_6 : gw_ln S (p1 + 6) = 24 := (hpp1 6 _ rfl).2.1
  have kp1_7 : gw_kd S (p1 + 7) = 12 := (hpp1 7 _ rfl).1
  have lp1_7 : gw_ln S (p1 + 7) = 24 := (hpp1 7 _ rfl).2.1
  have kp1_8 : gw_kd S (p1 + 8) = 12 := (hpp1 8 _ rfl).1
  have lp1_8 : gw_ln S (p1 + 8) = 4 := (hpp1 8 _ rfl).2.1
  have kp1_9 : gw_kd S (p1 + 9) = 12 := (hpp1 9 _ rfl).1
  have lp1_9 : gw_ln S (p1 + 9) = 2 := (hpp1 9 _ rfl).2.1
  unfold F_X2_copyFrom at h
  refine hK _ _ _ _ _ _ _ ?_
  rw [fdX2_copyFrom_0]
  simp only [gt_nil, true_and, eq_self, gt_aload_n, gt_rfk, gw_nth, gt_get_r, gt_get_i, gt_get_z, gt_iconst, gt_bipush, gt_s1_0, gt_s2_0, gt_s3_0, gt_s4_0, gt_s1_1, gt_s2_1, gt_s3_1, gt_s4_1, gt_acpy, gt_alen, true_or, or_true, gt_put_i, gt_putz, gt_vret, bkX2_copyFrom_0, ka0_0, ra0_0_0, ra0_0_1, ra0_0_10, ra0_0_11, ra0_0_12, ra0_0_13, ra0_0_14, ra0_0_2, ra0_0_3, ra0_0_4, ra0_0_7, ka0_1, la0_1, ka0_10, la0_10, ka0_11, la0_11, ka0_2, la0_2, ka0_3, la0_3, ka0_4, la0_4, ka0_5, la0_5, ka0_6, la0_6, ka0_7, la0_7, ka0_8, la0_8, ka0_9, la0_9, kp1_0, rp1_0_0, rp1_0_1, rp1_0_10, rp1_0_11, rp1_0_12, rp1_0_13, rp1_0_14, rp1_0_2, rp1_0_3, rp1_0_4, rp1_0_7, kp1_1, lp1_1, kp1_10, lp1_10, kp1_11, lp1_11, kp1_2, lp1_2, kp1_3, lp1_3, kp1_4, lp1_4, kp1_5, lp1_5, kp1_6, lp1_6, kp1_7, lp1_7, kp1_8, lp1_8, kp1_9, lp1_9, (show Int32.ofNat 2 = 2 from rfl), (show Int32.ofNat 24 = 24 from rfl), (show Int32.ofNat 4 = 4 from rfl), (show Int32.toNatClampNeg 0 = 0 from rfl), (show Int32.toNatClampNeg 2 = 2 from rfl), (show Int32.toNatClampNeg 24 = 24 from rfl), (show Int32.toNatClampNeg 4 = 4 from rfl)]
  refine ⟨by decide, by decide, by decide, by decide, by decide, ?_⟩
  obtain ⟨μ_1, hμ_1, h⟩ := gw_lt h
  try rw [← hμ_1]
  refine ⟨by decide, by decide, by decide, by decide, by decide, ?_⟩
  obtain ⟨μ_2, hμ_2, h⟩ := gw_lt h
  try rw [← hμ_2]
  refine ⟨by decide, by decide, by decide, by decide, by decide, ?_⟩
  obtain ⟨μ_3, hμ_3, h⟩ := gw_lt h
  try rw [← hμ_3]
  refine ⟨by decide, by decide, by decide, by decide, by decide, ?_⟩
  obtain ⟨μ_4, hμ_4, h⟩ := gw_lt h
  try rw [← hμ_4]
  refine ⟨by decide, by decide, by decide, by decide, by decide, ?_⟩
  obtain ⟨μ_5, hμ_5, h⟩ := gw_lt h
  try rw [← hμ_5]
  obtain ⟨μ_6, hμ_6, h⟩ := gw_lt h
  try rw [← hμ_6]
  obtain ⟨μ_7, hμ_7, h⟩ := gw_lt h
  try rw [← hμ_7]
  refine ⟨by decide, by decide, by decide, by decide, by decide, ?_⟩
  obtain ⟨μ_8, hμ_8, h⟩ := gw_lt h
  try rw [← hμ_8]
  obtain ⟨μ_9, hμ_9, h⟩ := gw_lt h
  try rw [← hμ_9]
  obtain ⟨μ_10, hμ_10, h⟩ := gw_lt h
  try rw [← hμ_10]
  refine ⟨by decide, by decide, by decide, by decide, by decide, ?_⟩
  obtain ⟨μ_11, hμ_11, h⟩ := gw_lt h
  try rw [← hμ_11]
  refine ⟨by decide, by decide, by decide, by decide, by decide, ?_⟩
  obtain ⟨μ_12, hμ_12, h⟩ := gw_lt h
  try rw [← hμ_12]
  refine ⟨by decide, by decide, by decide, by decide, by decide, ?_⟩
  obtain ⟨μ_13, hμ_13, h⟩ := gw_lt h
  try rw [← hμ_13]
  refine ⟨by decide, by decide, by decide, by decide, by decide, ?_⟩
  obtain ⟨μ_14, hμ_14, h⟩ := gw_lt h
  try rw [← hμ_14]
  refine ⟨by decide, by decide, by decide, by decide, by decide, ?_⟩
  obtain ⟨μ_15, hμ_15, h⟩ := gw_lt h
  try rw [← hμ_15]
  obtain rfl := gw_inj1 h
  exact ⟨hcc, hss, hq⟩
def F_X2_allExits (n0 : Nat) (a0 : Nat) (μ : gw_M) : Option (Int32) := some ((μ (a0 + 5) 0) + (μ (a0 + 5) 1))
theorem ok_X2_allExits {l : Launch} {x : gw_C} {d : Nat} {S : gw_S} {Q : Option Value → gw_S → gw_M → Prop} {a0 : Nat} {n0 : Nat} {μ : gw_M} {r} (hS0 : gw_sh S 2 a0) (h : F_X2_allExits n0 a0 μ = some r) (hq : Q (some (.int r)) S μ) : gw_ok l x (d + 1) sgX2_allExits 0 0 [.ref a0] S μ Q := by
  refine gw_ok_of stX2_allExits (lv0 := [.ref a0]) (Nat.le_of_ble_eq_true rfl) rfl rfl ?_
  intro K hK
  have hcc : 0 ≤ 0 := Nat.zero_le _
  have hss : 0 ≤ 0 := Nat.zero_le _
  have ka0_0 : gw_kd S a0 = 2 := (hS0 0 _ rfl).1
  have ra0_0_4 : gw_rf S a0 4 = a0 + 5 := (hS0 0 _ rfl).2.2 (4, 5) (by decide)
  have ka0_5 : gw_kd S (a0 + 5) = 12 := (hS0 5 _ rfl).1
  have la0_5 : gw_ln S (a0 + 5) = 2 := (hS0 5 _ rfl).2.1
  unfold F_X2_allExits at h
  refine hK _ _ _ _ _ _ _ ?_
  rw [fdX2_allExits_0]
  simp only [gt_nil, true_and, eq_self, gt_aload_n, gt_rfk, gw_nth, gt_get_r, gt_get_i, gt_get_z, gt_iconst, gt_iaload, gt_iadd, gt_iret, gt_retz, bkX2_allExits_0, ka0_0, ra0_0_4, ka0_5, la0_5, (show Int32.toNatClampNeg 0 = 0 from rfl), (show Int32.toNatClampNeg 1 = 1 from rfl)]
  refine ⟨(⟨by decide, by decide⟩ : gw_in 0 2), ?_⟩
  refine ⟨(⟨by decide, by decide⟩ : gw_in 1 2), ?_⟩
  obtain rfl := gw_inj1 h
  exact ⟨hcc, hss, hq⟩
def F_J9_min_7cf53 (n0 : Nat) (v0 : Int32) (v1 : Int32) (μ : gw_M) : Option (Int32) := (if v1 < v0 then some v1 else some v0)
theorem ok_J9_min_7cf53 {l : Launch} {x : gw_C} {d : Nat} {S : gw_S} {Q : Option Value → gw_S → gw_M → Prop} {v0 v1 : Int32} {n0 : Nat} {μ : gw_M} {r} (h : F_J9_min_7cf53 n0 v0 v1 μ = some r) (hq : Q (some (.int r)) S μ) : gw_ok l x (d + 1) sgJ9_min_7cf53 0 0 [.int v0, .int v1] S μ Q := by
  refine gw_ok_of stJ9_min_7cf53 (lv0 := [.int v0, .int v1]) (Nat.le_of_ble_eq_true rfl) rfl rfl ?_
  intro K hK
  have hcc : 0 ≤ 0 := Nat.zero_le _
  have hss : 0 ≤ 0 := Nat.zero_le _
  unfold F_J9_min_7cf53 at h
  refine hK _ _ _ _ _ _ _ ?_
  rw [fdJ9_min_7cf53_0]
  simp only [gt_nil, true_and, eq_self, gt_iload_n, gt_ink, gw_nth, gt_icmp, gt_goto, bkJ9_min_7cf53_0]
  refine ⟨fun c_1 => ?_, fun c_1 => ?_⟩
  · replace h := gw_ifp2 (gw_c2_gt _ _) h c_1
    refine hK _ _ _ _ _ _ _ ?_
    rw [fdJ9_min_7cf53_9]
    simp only [gt_nil, true_and, eq_self, gt_iload_n, gt_ink, gw_nth, bkJ9_min_7cf53_9]
    refine hK _ _ _ _ _ _ _ ?_
    rw [fdJ9_min_7cf53_10]
    simp only [gt_nil, true_and, eq_self, gt_iret, gt_retz, bkJ9_min_7cf53_10]
    obtain rfl := gw_inj1 h
    exact ⟨hcc, hss, hq⟩
  · replace h := gw_ifn2 (gw_c2_gt _ _) h c_1
    refine hK _ _ _ _ _ _ _ ?_
    rw [fdJ9_min_7cf53_10]
    simp only [gt_nil, true_and, eq_self, gt_iret, gt_retz, bkJ9_min_7cf53_10]
    obtain rfl := gw_inj1 h
    exact ⟨hcc, hss, hq⟩
def F_X2_exitsKept (n0 : Nat) (a0 : Nat) (μ : gw_M) : Option (Int32) := (F_X2_allExits n0 a0 μ).bind (fun (r_1 : Int32) => (F_J9_min_7cf53 n0 r_1 24 μ).bind (fun (r_5 : Int32) => some r_5))
theorem ok_X2_exitsKept {l : Launch} {x : gw_C} {d : Nat} {S : gw_S} {Q : Option Value → gw_S → gw_M → Prop} {a0 : Nat} {n0 : Nat} {μ : gw_M} {r} (hS0 : gw_sh S 2 a0) (h : F_X2_exitsKept n0 a0 μ = some r) (hq : Q (some (.int r)) S μ) : gw_ok l x (d + 2) sgX2_exitsKept 0 0 [.ref a0] S μ Q := by
  refine gw_ok_of stX2_exitsKept (lv0 := [.ref a0]) (Nat.le_of_ble_eq_true rfl) rfl rfl ?_
  intro K hK
  have hcc : 0 ≤ 0 := Nat.zero_le _
  have hss : 0 ≤ 0 := Nat.zero_le _
  have ka0_0 : gw_kd S a0 = 2 := (hS0 0 _ rfl).1
  unfold F_X2_exitsKept at h
  refine hK _ _ _ _ _ _ _ ?_
  rw [fdX2_exitsKept_0]
  simp only [gt_nil, true_and, eq_self, gt_aload_n, gt_rfk, gw_nth, gt_v0, gt_v1, gt_v2, gt_v3, gt_v4, gt_v5, gt_bipush, gt_s1_0, gt_s2_0, gt_s3_0, gt_s4_0, gt_s1_1, gt_s2_1, gt_s3_1, gt_s4_1, gt_acpy, gt_iret, gt_retz, bkX2_exitsKept_0, ka0_0]
  obtain ⟨r_1, e_3, h⟩ := gw_bnd h
  refine ⟨rfl, 0, 0, hcc, hss, ok_X2_allExits hS0 e_3 ?_⟩
  simp only [gt_nil, true_and, eq_self, gt_bipush, gt_s1_0, gt_s2_0, gt_s3_0, gt_s4_0, gt_s1_1, gt_s2_1, gt_s3_1, gt_s4_1, gt_acpy, gt_iret, gt_retz, Option.toList, List.cons_append, List.nil_append, Nat.add_zero, ka0_0]
  obtain ⟨r_5, e_7, h⟩ := gw_bnd h
  refine ⟨rfl, 0, 0, hcc, hss, ok_J9_min_7cf53 e_7 ?_⟩
  simp only [gt_nil, true_and, eq_self, gt_iret, gt_retz, Option.toList, List.cons_append, List.nil_append, Nat.add_zero, ka0_0]
  obtain rfl := gw_inj1 h
  exact ⟨hcc, hss, hq⟩
def F_X2_writeExit (n0 : Nat) (a0 : Nat) (v1 : Int32) (v2 : Int32) (v3 : Int32) (v4 : Int32) (μ : gw_M) : Option (gw_M) := gw_let ((((μ (a0 + 5) 0) + (μ (a0 + 5) 1)) - ((μ (a0 + 5) 0) + (μ (a0 + 5) 1)) / (24 : Int32) * (24 : Int32))) (fun (w_1 : Int32) => (if 0 ≤ w_1 ∧ w_1.toNatClampNeg < 24 then gw_let (gw_up μ (a0 + 1) w_1.toNatClampNeg v1) (fun (μ_3 : gw_M) => (if 0 ≤ w_1 ∧ w_1.toNatClampNeg < 24 then gw_let (gw_up μ_3 (a0 + 2) w_1.toNatClampNeg v2) (fun (μ_5 : gw_M) => (if 0 ≤ w_1 ∧ w_1.toNatClampNeg < 24 then gw_let (gw_up μ_5 (a0 + 3) w_1.toNatClampNeg v3) (fun (μ_7 : gw_M) => (if 0 ≤ w_1 ∧ w_1.toNatClampNeg < 24 then gw_let (gw_up μ_7 (a0 + 4) w_1.toNatClampNeg v4) (fun (μ_9 : gw_M) => (if 0 ≤ v1 ∧ v1.toNatClampNeg < 2 then (if 0 ≤ v1 ∧ v1.toNatClampNeg < 2 then gw_let (gw_up μ_9 (a0 + 5) v1.toNatClampNeg ((μ_9 (a0 + 5) v1.toNatClampNeg) + (1 : Int32))) (fun (μ_12 : gw_M) => (if ¬ v1 = 1 then some μ_12 else gw_let (gw_up μ_12 a0 5 v2) (fun (μ_14 : gw_M) => gw_let (gw_up μ_14 a0 6 v3) (fun (μ_15 : gw_M) => some μ_15)))) else none) else none)) else none)) else none)) else none)) else none))
theorem ok_X2_writeExit {l : Launch} {x : gw_C} {d : Nat} {S : gw_S} {Q : Option Value → gw_S → gw_M → Prop} {v1 v2 v3 v4 : Int32} {a0 : Nat} {n0 : Nat} {μ : gw_M} {μ'} (hS0 : gw_sh S 2 a0) (h : F_X2_writeExit n0 a0 v1 v2 v3 v4 μ = some μ') (hq : Q none S μ') : gw_ok l x (d + 1) sgX2_writeExit 0 0 [.ref a0, .int v1, .int v2, .int v3, .int v4] S μ Q := by
  refine gw_ok_of stX2_writeExit (lv0 := [.ref a0, .int v1, .int v2, .int v3, .int v4, .retAddr 0]) (Nat.le_of_ble_eq_true rfl) rfl rfl ?_
  intro K hK
  have hcc : 0 ≤ 0 := Nat.zero_le _
  have hss : 0 ≤ 0 := Nat.zero_le _
  have ka0_0 : gw_kd S a0 = 2 := (hS0 0 _ rfl).1
  have ra0_0_0 : gw_rf S a0 0 = a0 + 1 := (hS0 0 _ rfl).2.2 (0, 1) (by decide)
  have ra0_0_1 : gw_rf S a0 1 = a0 + 2 := (hS0 0 _ rfl).2.2 (1, 2) (by decide)
  have ra0_0_2 : gw_rf S a0 2 = a0 + 3 := (hS0 0 _ rfl).2.2 (2, 3) (by decide)
  have ra0_0_3 : gw_rf S a0 3 = a0 + 4 := (hS0 0 _ rfl).2.2 (3, 4) (by decide)
  have ra0_0_4 : gw_rf S a0 4 = a0 + 5 := (hS0 0 _ rfl).2.2 (4, 5) (by decide)
  have ka0_1 : gw_kd S (a0 + 1) = 12 := (hS0 1 _ rfl).1
  have la0_1 : gw_ln S (a0 + 1) = 24 := (hS0 1 _ rfl).2.1
  have ka0_2 : gw_kd S (a0 + 2) = 12 := (hS0 2 _ rfl).1
  have la0_2 : gw_ln S (a0 + 2) = 24 := (hS0 2 _ rfl).2.1
  have ka0_3 : gw_kd S (a0 + 3) = 12 := (hS0 3 _ rfl).1
  have la0_3 : gw_ln S (a0 + 3) = 24 := (hS0 3 _ rfl).2.1
  have ka0_4 : gw_kd S (a0 + 4) = 12 := (hS0 4 _ rfl).1
  have la0_4 : gw_ln S (a0 + 4) = 24 := (hS0 4 _ rfl).2.1
  have ka0_5 : gw_kd S (a0 + 5) = 12 := (hS0 5 _ rfl).1
  have la0_5 : gw_ln S (a0 + 5) = 2 := (hS0 5 _ rfl).2.1
  unfold F_X2_writeExit at h
  refine hK _ _ _ _ _ _ _ ?_
  rw [fdX2_writeExit_0]
  simp only [gt_nil, true_and, eq_self, gt_aload_n, gt_rfk, gw_nth, gt_get_r, gt_get_i, gt_get_z, gt_iconst, gt_iaload, gt_iadd, gt_bipush, gt_irem, gt_istore, gw_set, gt_iload, gt_ink, gt_iload_n, gt_iastore, gt_dup2, gt_icmp, gt_put_i, gt_putz, bkX2_writeExit_0, ka0_0, ra0_0_0, ra0_0_1, ra0_0_2, ra0_0_3, ra0_0_4, ka0_1, la0_1, ka0_2, la0_2, ka0_3, la0_3, ka0_4, la0_4, ka0_5, la0_5, (show Int32.toNatClampNeg 0 = 0 from rfl), (show Int32.toNatClampNeg 1 = 1 from rfl)]
  refine ⟨(⟨by decide, by decide⟩ : gw_in 0 2), ?_⟩
  refine ⟨(⟨by decide, by decide⟩ : gw_in 1 2), ?_⟩
  refine ⟨by decide, ?_⟩
  obtain ⟨w_1, hw_1, h⟩ := gw_lt h
  try rw [← hw_1]
  obtain ⟨c_2, h⟩ := gw_ife h
  refine ⟨c_2, ?_⟩
  obtain ⟨μ_3, hμ_3, h⟩ := gw_lt h
  try rw [← hμ_3]
  obtain ⟨c_4, h⟩ := gw_ife h
  refine ⟨c_4, ?_⟩
  obtain ⟨μ_5, hμ_5, h⟩ := gw_lt h
  try rw [← hμ_5]
  obtain ⟨c_6, h⟩ := gw_ife h
  refine ⟨c_6, ?_⟩
  obtain ⟨μ_7, hμ_7, h⟩ := gw_lt h
  try rw [← hμ_7]
  obtain ⟨c_8, h⟩ := gw_ife h
  refine ⟨c_8, ?_⟩
  obtain ⟨μ_9, hμ_9, h⟩ := gw_lt h
  try rw [← hμ_9]
  obtain ⟨c_10, h⟩ := gw_ife h
  refine ⟨c_10, ?_⟩
  obtain ⟨c_11, h⟩ := gw_ife h
  refine ⟨c_11, ?_⟩
  obtain ⟨μ_12, hμ_12, h⟩ := gw_lt h
  try rw [← hμ_12]
  refine ⟨fun c_13 => ?_, fun c_13 => ?_⟩
  · replace h := gw_ifp2 (gw_c2_ne _ _) h c_13
    refine hK _ _ _ _ _ _ _ ?_
    rw [fdX2_writeExit_76]
    simp only [gt_nil, true_and, eq_self, gt_vret, bkX2_writeExit_76, ka0_0, ra0_0_0, ra0_0_1, ra0_0_2, ra0_0_3, ra0_0_4, ka0_1, la0_1, ka0_2, la0_2, ka0_3, la0_3, ka0_4, la0_4, ka0_5, la0_5, (show Int32.toNatClampNeg 0 = 0 from rfl), (show Int32.toNatClampNeg 1 = 1 from rfl)]
    obtain rfl := gw_inj1 h
    exact ⟨hcc, hss, hq⟩
  · replace h := gw_ifn2 (gw_c2_ne _ _) h c_13
    obtain ⟨μ_14, hμ_14, h⟩ := gw_lt h
    try rw [← hμ_14]
    obtain ⟨μ_15, hμ_15, h⟩ := gw_lt h
    try rw [← hμ_15]
    refine hK _ _ _ _ _ _ _ ?_
    rw [fdX2_writeExit_76]
    simp only [gt_nil, true_and, eq_self, gt_vret, bkX2_writeExit_76, ka0_0, ra0_0_0, ra0_0_1, ra0_0_2, ra0_0_3, ra0_0_4, ka0_1, la0_1, ka0_2, la0_2, ka0_3, la0_3, ka0_4, la0_4, ka0_5, la0_5, (show Int32.toNatClampNeg 0 = 0 from rfl), (show Int32.toNatClampNeg 1 = 1 from rfl)]
    obtain rfl := gw_inj1 h
    exact ⟨hcc, hss, hq⟩
def F_X10_within_14 (n0 : Nat) (μ : gw_M) : Option (Int32) := some 0
def F_X10_within (n0 : Nat) (v0 : Int32) (v1 : Int32) (v2 : Int32) (μ : gw_M) : Option (Int32) := (if v0 < v1 then F_X10_within_14 n0 μ else (if v2 < v0 then F_X10_within_14 n0 μ else some 1))
theorem B_X10_within_14 {l : Launch} {x : gw_C} {d : Nat} {S : gw_S} {Q : Option Value → gw_S → gw_M → Prop} {K : Nat → gw_Kt} {mc ms cc ss : Nat} (hcc : cc ≤ mc) (hss : ss ≤ ms) (hK : gw_cl l x (d + 0) mc ms bsX10_within Q K) {n0 : Nat}  {u0 u1 u2 : Value} {μ : gw_M} {r} (h : F_X10_within_14 n0 μ = some r) (hq : ((r = 0 ∨ r = 1) → Q (some (.int r)) S μ)) : K 14 [u0, u1, u2] [] S μ cc ss := by
  unfold F_X10_within_14 at h
  refine hK _ _ _ _ _ _ _ ?_
  rw [fdX10_within_14]
  simp only [gt_nil, true_and, eq_self, gt_iconst, bkX10_within_14]
  refine hK _ _ _ _ _ _ _ ?_
  rw [fdX10_within_15]
  simp only [gt_nil, true_and, eq_self, gt_iret, gt_retz, bkX10_within_15]
  obtain rfl := gw_inj1 h
  exact ⟨(Or.inl rfl), hcc, hss, hq (Or.inl rfl)⟩
theorem ok_X10_within {l : Launch} {x : gw_C} {d : Nat} {S : gw_S} {Q : Option Value → gw_S → gw_M → Prop} {v0 v1 v2 : Int32} {n0 : Nat} {μ : gw_M} {r} (h : F_X10_within n0 v0 v1 v2 μ = some r) (hq : ((r = 0 ∨ r = 1) → Q (some (.int r)) S μ)) : gw_ok l x (d + 1) sgX10_within 0 0 [.int v0, .int v1, .int v2] S μ Q := by
  refine gw_ok_of stX10_within (lv0 := [.int v0, .int v1, .int v2]) (Nat.le_of_ble_eq_true rfl) rfl rfl ?_
  intro K hK
  have hcc : 0 ≤ 0 := Nat.zero_le _
  have hss : 0 ≤ 0 := Nat.zero_le _
  unfold F_X10_within at h
  refine hK _ _ _ _ _ _ _ ?_
  rw [fdX10_within_0]
  simp only [gt_nil, true_and, eq_self, gt_iload_n, gt_ink, gw_nth, gt_icmp, gt_iconst, gt_goto, bkX10_within_0]
  refine ⟨fun c_1 => ?_, fun c_1 => ?_⟩
  · replace h := gw_ifp2 (gw_c2_lt _ _) h c_1
    exact B_X10_within_14 hcc hss hK h hq
  · replace h := gw_ifn2 (gw_c2_lt _ _) h c_1
    refine ⟨fun c_2 => ?_, fun c_2 => ?_⟩
    · replace h := gw_ifp2 (gw_c2_gt _ _) h c_2
      exact B_X10_within_14 hcc hss hK h hq
    · replace h := gw_ifn2 (gw_c2_gt _ _) h c_2
      refine hK _ _ _ _ _ _ _ ?_
      rw [fdX10_within_15]
      simp only [gt_nil, true_and, eq_self, gt_iret, gt_retz, bkX10_within_15]
      obtain rfl := gw_inj1 h
      exact ⟨(Or.inr rfl), hcc, hss, hq (Or.inr rfl)⟩
def F_X2_exitAt (n0 : Nat) (a0 : Nat) (v1 : Int32) (v2 : Int32) (μ : gw_M) : Option (Int32) := (F_X2_exitsKept n0 a0 μ).bind (fun (r_1 : Int32) => (F_X10_within n0 v1 0 (r_1 - (1 : Int32)) μ).bind (fun (r_5 : Int32) => (if ¬ r_5 = 0 then (F_X2_allExits n0 a0 μ).bind (fun (r_10 : Int32) => (F_X2_exitsKept n0 a0 μ).bind (fun (r_14 : Int32) => gw_let ((((r_10 - r_14) + v1) - ((r_10 - r_14) + v1) / (24 : Int32) * (24 : Int32))) (fun (w_18 : Int32) => (if v2 = (0 : Int32) then (if 0 ≤ w_18 ∧ w_18.toNatClampNeg < 24 then some (μ (a0 + 1) w_18.toNatClampNeg) else none) else (if v2 = ((0 : Int32) + 1) then (if 0 ≤ w_18 ∧ w_18.toNatClampNeg < 24 then some (μ (a0 + 2) w_18.toNatClampNeg) else none) else (if v2 = (((0 : Int32) + 1) + 1) then (if 0 ≤ w_18 ∧ w_18.toNatClampNeg < 24 then some (μ (a0 + 3) w_18.toNatClampNeg) else none) else (if v2 = ((((0 : Int32) + 1) + 1) + 1) then (if 0 ≤ w_18 ∧ w_18.toNatClampNeg < 24 then some (μ (a0 + 4) w_18.toNatClampNeg) else none) else some (-2)))))))) else some (-2))))
theorem ok_X2_exitAt {l : Launch} {x : gw_C} {d : Nat} {S : gw_S} {Q : Option Value → gw_S → gw_M → Prop} {v1 v2 : Int32} {a0 : Nat} {n0 : Nat} {μ : gw_M} {r} (hS0 : gw_sh S 2 a0) (h : F_X2_exitAt n0 a0 v1 v2 μ = some r) (hq : Q (some (.int r)) S μ) : gw_ok l x (d + 3) sgX2_exitAt 0 0 [.ref a0, .int v1, .int v2] S μ Q := by
  refine gw_ok_of stX2_exitAt (lv0 := [.ref a0, .int v1, .int v2, .retAddr 0]) (Nat.le_of_ble_eq_true rfl) rfl rfl ?_
  intro K hK
  have hcc : 0 ≤ 0 := Nat.zero_le _
  have hss : 0 ≤ 0 := Nat.zero_le _
  have ka0_0 : gw_kd S a0 = 2 := (hS0 0 _ rfl).1
  have ra0_0_0 : gw_rf S a0 0 = a0 + 1 := (hS0 0 _ rfl).2.2 (0, 1) (by decide)
  have ra0_0_1 : gw_rf S a0 1 = a0 + 2 := (hS0 0 _ rfl).2.2 (1, 2) (by decide)
  have ra0_0_2 : gw_rf S a0 2 = a0 + 3 := (hS0 0 _ rfl).2.2 (2, 3) (by decide)
  have ra0_0_3 : gw_rf S a0 3 = a0 + 4 := (hS0 0 _ rfl).2.2 (3, 4) (by decide)
  have ka0_1 : gw_kd S (a0 + 1) = 12 := (hS0 1 _ rfl).1
  have la0_1 : gw_ln S (a0 + 1) = 24 := (hS0 1 _ rfl).2.1
  have ka0_2 : gw_kd S (a0 + 2) = 12 := (hS0 2 _ rfl).1
  have la0_2 : gw_ln S (a0 + 2) = 24 := (hS0 2 _ rfl).2.1
  have ka0_3 : gw_kd S (a0 + 3) = 12 := (hS0 3 _ rfl).1
  have la0_3 : gw_ln S (a0 + 3) = 24 := (hS0 3 _ rfl).2.1
  have ka0_4 : gw_kd S (a0 + 4) = 12 := (hS0 4 _ rfl).1
  have la0_4 : gw_ln S (a0 + 4) = 24 := (hS0 4 _ rfl).2.1
  unfold F_X2_exitAt at h
  refine hK _ _ _ _ _ _ _ ?_
  rw [fdX2_exitAt_0]
  simp only [gt_nil, true_and, eq_self, gt_iload_n, gt_ink, gw_nth, gt_iconst, gt_aload_n, gt_rfk, gt_v0, gt_v1, gt_v2, gt_v3, gt_v4, gt_v5, gt_isub, gt_s1_0, gt_s2_0, gt_s3_0, gt_s4_0, gt_s1_1, gt_s2_1, gt_s3_1, gt_s4_1, gt_acpy, gt_if, gt_bipush, gt_iret, gt_retz, bkX2_exitAt_0, ka0_0, ra0_0_0, ra0_0_1, ra0_0_2, ra0_0_3, ka0_1, la0_1, ka0_2, la0_2, ka0_3, la0_3, ka0_4, la0_4]
  obtain ⟨r_1, e_3, h⟩ := gw_bnd h
  refine ⟨rfl, 0, 0, hcc, hss, ok_X2_exitsKept hS0 e_3 ?_⟩
  simp only [gt_nil, true_and, eq_self, gt_iconst, gt_isub, gt_s1_0, gt_s2_0, gt_s3_0, gt_s4_0, gt_s1_1, gt_s2_1, gt_s3_1, gt_s4_1, gt_acpy, gt_if, gt_bipush, gt_iret, gt_retz, Option.toList, List.cons_append, List.nil_append, Nat.add_zero, ka0_0, ra0_0_0, ra0_0_1, ra0_0_2, ra0_0_3, ka0_1, la0_1, ka0_2, la0_2, ka0_3, la0_3, ka0_4, la0_4]
  obtain ⟨r_5, e_7, h⟩ := gw_bnd h
  refine ⟨rfl, 0, 0, hcc, hss, ok_X10_within e_7 ?_⟩
  intro hbr_5
  simp only [gt_nil, true_and, eq_self, gt_if, gt_bipush, gt_iret, gt_retz, Option.toList, List.cons_append, List.nil_append, Nat.add_zero, ka0_0, ra0_0_0, ra0_0_1, ra0_0_2, ra0_0_3, ka0_1, la0_1, ka0_2, la0_2, ka0_3, la0_3, ka0_4, la0_4]
  refine ⟨fun c_9 => ?_, fun c_9 => ?_⟩
  · replace h := gw_ifp h c_9
    refine hK _ _ _ _ _ _ _ ?_
    rw [fdX2_exitAt_17]
    simp only [gt_nil, true_and, eq_self, gt_aload_n, gt_rfk, gw_nth, gt_v0, gt_v1, gt_v2, gt_v3, gt_v4, gt_v5, gt_isub, gt_iload_n, gt_ink, gt_iadd, gt_bipush, gt_irem, gt_istore_n, gw_set, gt_tsw, gw_sw, bkX2_exitAt_17, ka0_0, ra0_0_0, ra0_0_1, ra0_0_2, ra0_0_3, ka0_1, la0_1, ka0_2, la0_2, ka0_3, la0_3, ka0_4, la0_4]
    obtain ⟨r_10, e_12, h⟩ := gw_bnd h
    refine ⟨rfl, 0, 0, hcc, hss, ok_X2_allExits hS0 e_12 ?_⟩
    simp only [gt_nil, true_and, eq_self, gt_aload_n, gt_rfk, gw_nth, gt_v0, gt_v1, gt_v2, gt_v3, gt_v4, gt_v5, gt_isub, gt_iload_n, gt_ink, gt_iadd, gt_bipush, gt_irem, gt_istore_n, gw_set, gt_tsw, gw_sw, Option.toList, List.cons_append, List.nil_append, Nat.add_zero, ka0_0, ra0_0_0, ra0_0_1, ra0_0_2, ra0_0_3, ka0_1, la0_1, ka0_2, la0_2, ka0_3, la0_3, ka0_4, la0_4]
    obtain ⟨r_14, e_16, h⟩ := gw_bnd h
    refine ⟨rfl, 0, 0, hcc, hss, ok_X2_exitsKept hS0 e_16 ?_⟩
    simp only [gt_nil, true_and, eq_self, gt_isub, gt_iload_n, gt_ink, gw_nth, gt_iadd, gt_bipush, gt_irem, gt_istore_n, gw_set, gt_tsw, gw_sw, Option.toList, List.cons_append, List.nil_append, Nat.add_zero, ka0_0, ra0_0_0, ra0_0_1, ra0_0_2, ra0_0_3, ka0_1, la0_1, ka0_2, la0_2, ka0_3, la0_3, ka0_4, la0_4]
    refine ⟨by decide, ?_⟩
    obtain ⟨w_18, hw_18, h⟩ := gw_lt h
    try rw [← hw_18]
    refine ⟨fun c_19 => ?_, fun c_19 => ?_⟩
    · replace h := gw_ifp h c_19
      refine hK _ _ _ _ _ _ _ ?_
      rw [fdX2_exitAt_64]
      simp only [gt_nil, true_and, eq_self, gt_aload_n, gt_rfk, gw_nth, gt_get_r, gt_get_i, gt_get_z, gt_iload_n, gt_ink, gt_iaload, gt_iret, gt_retz, bkX2_exitAt_64, ka0_0, ra0_0_0, ra0_0_1, ra0_0_2, ra0_0_3, ka0_1, la0_1, ka0_2, la0_2, ka0_3, la0_3, ka0_4, la0_4]
      obtain ⟨c_20, h⟩ := gw_ife h
      refine ⟨c_20, ?_⟩
      obtain rfl := gw_inj1 h
      exact ⟨hcc, hss, hq⟩
    replace h := gw_ifn h c_19
    refine ⟨fun c_21 => ?_, fun c_21 => ?_⟩
    · replace h := gw_ifp h c_21
      refine hK _ _ _ _ _ _ _ ?_
      rw [fdX2_exitAt_71]
      simp only [gt_nil, true_and, eq_self, gt_aload_n, gt_rfk, gw_nth, gt_get_r, gt_get_i, gt_get_z, gt_iload_n, gt_ink, gt_iaload, gt_iret, gt_retz, bkX2_exitAt_71, ka0_0, ra0_0_0, ra0_0_1, ra0_0_2, ra0_0_3, ka0_1, la0_1, ka0_2, la0_2, ka0_3, la0_3, ka0_4, la0_4]
      obtain ⟨c_22, h⟩ := gw_ife h
      refine ⟨c_22, ?_⟩
      obtain rfl := gw_inj1 h
      exact ⟨hcc, hss, hq⟩
    replace h := gw_ifn h c_21
    refine ⟨fun c_23 => ?_, fun c_23 => ?_⟩
    · replace h := gw_ifp h c_23
      refine hK _ _ _ _ _ _ _ ?_
      rw [fdX2_exitAt_78]
      simp only [gt_nil, true_and, eq_self, gt_aload_n, gt_rfk, gw_nth, gt_get_r, gt_get_i, gt_get_z, gt_iload_n, gt_ink, gt_iaload, gt_iret, gt_retz, bkX2_exitAt_78, ka0_0, ra0_0_0, ra0_0_1, ra0_0_2, ra0_0_3, ka0_1, la0_1, ka0_2, la0_2, ka0_3, la0_3, ka0_4, la0_4]
      obtain ⟨c_24, h⟩ := gw_ife h
      refine ⟨c_24, ?_⟩
      obtain rfl := gw_inj1 h
      exact ⟨hcc, hss, hq⟩
    replace h := gw_ifn h c_23
    refine ⟨fun c_25 => ?_, fun c_25 => ?_⟩
    · replace h := gw_ifp h c_25
      refine hK _ _ _ _ _ _ _ ?_
      rw [fdX2_exitAt_85]
      simp only [gt_nil, true_and, eq_self, gt_aload_n, gt_rfk, gw_nth, gt_get_r, gt_get_i, gt_get_z, gt_iload_n, gt_ink, gt_iaload, gt_iret, gt_retz, bkX2_exitAt_85, ka0_0, ra0_0_0, ra0_0_1, ra0_0_2, ra0_0_3, ka0_1, la0_1, ka0_2, la0_2, ka0_3, la0_3, ka0_4, la0_4]
      obtain ⟨c_26, h⟩ := gw_ife h
      refine ⟨c_26, ?_⟩
      obtain rfl := gw_inj1 h
      exact ⟨hcc, hss, hq⟩
    replace h := gw_ifn h c_25
    refine hK _ _ _ _ _ _ _ ?_
    rw [fdX2_exitAt_92]
    simp only [gt_nil, true_and, eq_self, gt_bipush, gt_iret, gt_retz, bkX2_exitAt_92, ka0_0, ra0_0_0, ra0_0_1, ra0_0_2, ra0_0_3, ka0_1, la0_1, ka0_2, la0_2, ka0_3, la0_3, ka0_4, la0_4]
    obtain rfl := gw_inj1 h
    exact ⟨hcc, hss, hq⟩
  · replace h := gw_ifn h c_9
    obtain rfl := gw_inj1 h
    exact ⟨hcc, hss, hq⟩
def F_X2_exitsBy_25 (rec4 : Int32 → Int32 → Int32 → gw_M → Option (Int32)) (n0 : Nat) (a0 : Nat) (v1 : Int32) (v2 : Int32) (v3 : Int32) (μ : gw_M) : Option (Int32) := gw_let (v3 + 1) (fun (w_1 : Int32) => rec4 v1 v2 w_1 μ)
def F_X2_exitsBy_4 (n0 : Nat) (a0 : Nat) : Nat → Int32 → Int32 → Int32 → gw_M → Option (Int32)
  | 0, _, _, _, _ => none
  | n + 1, v1, v2, v3, μ => (F_X2_exitsKept n0 a0 μ).bind (fun (r_1 : Int32) => (if r_1 ≤ v3 then some v2 else (if 0 ≤ v3 ∧ v3.toNatClampNeg < 24 then (if ¬ (μ (a0 + 2) v3.toNatClampNeg) = v1 then F_X2_exitsBy_25 (F_X2_exitsBy_4 n0 a0 n) n0 a0 v1 v2 v3 μ else gw_let (v2 + 1) (fun (w_8 : Int32) => F_X2_exitsBy_25 (F_X2_exitsBy_4 n0 a0 n) n0 a0 v1 w_8 v3 μ)) else none)))
def F_X2_exitsBy (n0 : Nat) (a0 : Nat) (v1 : Int32) (μ : gw_M) : Option (Int32) := F_X2_exitsBy_4 n0 a0 n0 v1 0 0 μ
theorem B_X2_exitsBy_25 {l : Launch} {x : gw_C} {d : Nat} {S : gw_S} {Q : Option Value → gw_S → gw_M → Prop} {K : Nat → gw_Kt} {mc ms cc ss : Nat} (hcc : cc ≤ mc) (hss : ss ≤ ms) (hK : gw_cl l x (d + 2) mc ms bsX2_exitsBy Q K) {a0 : Nat} (hS0 : gw_sh S 2 a0) {rec4 : Int32 → Int32 → Int32 → gw_M → Option (Int32)} (hrec4 : ∀ {v1 v2 v3} {μ : gw_M} {r}, rec4 v1 v2 v3 μ = some r → Q (some (.int r)) S μ → K 4 [.ref a0, .int v1, .int v2, .int v3] [] S μ cc ss) {n0 : Nat} {v1 v2 v3} {μ : gw_M} {r} (h : F_X2_exitsBy_25 rec4 n0 a0 v1 v2 v3 μ = some r) (hq : Q (some (.int r)) S μ) : K 25 [.ref a0, .int v1, .int v2, .int v3] [] S μ cc ss := by
  unfold F_X2_exitsBy_25 at h
  refine hK _ _ _ _ _ _ _ ?_
  rw [fdX2_exitsBy_25]
  simp only [gt_nil, true_and, eq_self, gt_iinc, gt_ink, gw_nth, gw_set, gt_goto, bkX2_exitsBy_25]
  obtain ⟨w_1, hw_1, h⟩ := gw_lt h
  try rw [← hw_1]
  exact hrec4 h hq
theorem B_X2_exitsBy_4 {l : Launch} {x : gw_C} {d : Nat} {S : gw_S} {Q : Option Value → gw_S → gw_M → Prop} {K : Nat → gw_Kt} {mc ms cc ss : Nat} (hcc : cc ≤ mc) (hss : ss ≤ ms) (hK : gw_cl l x (d + 2) mc ms bsX2_exitsBy Q K) {a0 : Nat} (hS0 : gw_sh S 2 a0) {n0 : Nat} : ∀ {n : Nat} {v1 v2 v3} {μ : gw_M} {r}, F_X2_exitsBy_4 n0 a0 n v1 v2 v3 μ = some r → Q (some (.int r)) S μ → K 4 [.ref a0, .int v1, .int v2, .int v3] [] S μ cc ss := by
  have ka0_0 : gw_kd S a0 = 2 := (hS0 0 _ rfl).1
  have ra0_0_1 : gw_rf S a0 1 = a0 + 2 := (hS0 0 _ rfl).2.2 (1, 2) (by decide)
  have ka0_2 : gw_kd S (a0 + 2) = 12 := (hS0 2 _ rfl).1
  have la0_2 : gw_ln S (a0 + 2) = 24 := (hS0 2 _ rfl).2.1
  intro n
  induction n with
  | zero => intro v1 v2 v3 μ r h hq; simp [F_X2_exitsBy_4] at h
  | succ n ih =>
    intro v1 v2 v3 μ r h hq
    simp only [F_X2_exitsBy_4] at h
    refine hK _ _ _ _ _ _ _ ?_
    rw [fdX2_exitsBy_4]
    simp only [gt_nil, true_and, eq_self, gt_iload_n, gt_ink, gw_nth, gt_aload_n, gt_rfk, gt_v0, gt_v1, gt_v2, gt_v3, gt_v4, gt_v5, gt_icmp, gt_get_r, gt_get_i, gt_get_z, gt_iaload, gt_iinc, gw_set, bkX2_exitsBy_4, ka0_0, ra0_0_1, ka0_2, la0_2]
    obtain ⟨r_1, e_3, h⟩ := gw_bnd h
    refine ⟨rfl, 0, 0, hcc, hss, ok_X2_exitsKept hS0 e_3 ?_⟩
    simp only [gt_nil, true_and, eq_self, gt_icmp, gt_aload_n, gt_rfk, gw_nth, gt_get_r, gt_get_i, gt_get_z, gt_iload_n, gt_ink, gt_iaload, gt_iinc, gw_set, Option.toList, List.cons_append, List.nil_append, Nat.add_zero, ka0_0, ra0_0_1, ka0_2, la0_2]
    refine ⟨fun c_5 => ?_, fun c_5 => ?_⟩
    · replace h := gw_ifp2 (gw_c2_ge _ _) h c_5
      refine hK _ _ _ _ _ _ _ ?_
      rw [fdX2_exitsBy_31]
      simp only [gt_nil, true_and, eq_self, gt_iload_n, gt_ink, gw_nth, gt_iret, gt_retz, bkX2_exitsBy_31, ka0_0, ra0_0_1, ka0_2, la0_2]
      obtain rfl := gw_inj1 h
      exact ⟨hcc, hss, hq⟩
    · replace h := gw_ifn2 (gw_c2_ge _ _) h c_5
      obtain ⟨c_6, h⟩ := gw_ife h
      refine ⟨c_6, ?_⟩
      refine ⟨fun c_7 => ?_, fun c_7 => ?_⟩
      · replace h := gw_ifp2 (gw_c2_ne _ _) h c_7
        exact B_X2_exitsBy_25 hcc hss hK hS0 ih h hq
      · replace h := gw_ifn2 (gw_c2_ne _ _) h c_7
        obtain ⟨w_8, hw_8, h⟩ := gw_lt h
        try rw [← hw_8]
        exact B_X2_exitsBy_25 hcc hss hK hS0 ih h hq
theorem ok_X2_exitsBy {l : Launch} {x : gw_C} {d : Nat} {S : gw_S} {Q : Option Value → gw_S → gw_M → Prop} {v1 : Int32} {a0 : Nat} {n0 : Nat} {μ : gw_M} {r} (hS0 : gw_sh S 2 a0) (h : F_X2_exitsBy n0 a0 v1 μ = some r) (hq : Q (some (.int r)) S μ) : gw_ok l x (d + 3) sgX2_exitsBy 0 0 [.ref a0, .int v1] S μ Q := by
  refine gw_ok_of stX2_exitsBy (lv0 := [.ref a0, .int v1, .retAddr 0, .retAddr 0]) (Nat.le_of_ble_eq_true rfl) rfl rfl ?_
  intro K hK
  have hcc : 0 ≤ 0 := Nat.zero_le _
  have hss : 0 ≤ 0 := Nat.zero_le _
  unfold F_X2_exitsBy at h
  refine hK _ _ _ _ _ _ _ ?_
  rw [fdX2_exitsBy_0]
  simp only [gt_nil, true_and, eq_self, gt_iconst, gt_istore_n, gw_set, bkX2_exitsBy_0]
  exact B_X2_exitsBy_4 hcc hss hK hS0 h hq
def F_X2_hear (n0 : Nat) (a0 : Nat) (v1 : Int32) (μ : gw_M) : Option (gw_M) := (if 0 ≤ ((μ a0 8) - (μ a0 8) / (24 : Int32) * (24 : Int32)) ∧ ((μ a0 8) - (μ a0 8) / (24 : Int32) * (24 : Int32)).toNatClampNeg < 24 then gw_let (gw_up μ (a0 + 6) ((μ a0 8) - (μ a0 8) / (24 : Int32) * (24 : Int32)).toNatClampNeg v1) (fun (μ_2 : gw_M) => gw_let (gw_up μ_2 a0 8 ((μ_2 a0 8) + (1 : Int32))) (fun (μ_3 : gw_M) => some μ_3)) else none)
theorem ok_X2_hear {l : Launch} {x : gw_C} {d : Nat} {S : gw_S} {Q : Option Value → gw_S → gw_M → Prop} {v1 : Int32} {a0 : Nat} {n0 : Nat} {μ : gw_M} {μ'} (hS0 : gw_sh S 2 a0) (h : F_X2_hear n0 a0 v1 μ = some μ') (hq : Q none S μ') : gw_ok l x (d + 1) sgX2_hear 0 0 [.ref a0, .int v1] S μ Q := by
  refine gw_ok_of stX2_hear (lv0 := [.ref a0, .int v1]) (Nat.le_of_ble_eq_true rfl) rfl rfl ?_
  intro K hK
  have hcc : 0 ≤ 0 := Nat.zero_le _
  have hss : 0 ≤ 0 := Nat.zero_le _
  have ka0_0 : gw_kd S a0 = 2 := (hS0 0 _ rfl).1
  have ra0_0_7 : gw_rf S a0 7 = a0 + 6 := (hS0 0 _ rfl).2.2 (7, 6) (by decide)
  have ka0_6 : gw_kd S (a0 + 6) = 12 := (hS0 6 _ rfl).1
  have la0_6 : gw_ln S (a0 + 6) = 24 := (hS0 6 _ rfl).2.1
  unfold F_X2_hear at h
  refine hK _ _ _ _ _ _ _ ?_
  rw [fdX2_hear_0]
  simp only [gt_nil, true_and, eq_self, gt_aload_n, gt_rfk, gw_nth, gt_get_r, gt_get_i, gt_get_z, gt_bipush, gt_irem, gt_iload_n, gt_ink, gt_iastore, gt_dup_i, gt_dup_r, gt_iconst, gt_iadd, gt_put_i, gt_putz, gt_vret, bkX2_hear_0, ka0_0, ra0_0_7, ka0_6, la0_6]
  refine ⟨by decide, ?_⟩
  obtain ⟨c_1, h⟩ := gw_ife h
  refine ⟨c_1, ?_⟩
  obtain ⟨μ_2, hμ_2, h⟩ := gw_lt h
  try rw [← hμ_2]
  obtain ⟨μ_3, hμ_3, h⟩ := gw_lt h
  try rw [← hμ_3]
  obtain rfl := gw_inj1 h
  exact ⟨hcc, hss, hq⟩
def F_X2_heardKept (n0 : Nat) (a0 : Nat) (μ : gw_M) : Option (Int32) := (F_J9_min_7cf53 n0 (μ a0 8) 24 μ).bind (fun (r_1 : Int32) => some r_1)
theorem ok_X2_heardKept {l : Launch} {x : gw_C} {d : Nat} {S : gw_S} {Q : Option Value → gw_S → gw_M → Prop} {a0 : Nat} {n0 : Nat} {μ : gw_M} {r} (hS0 : gw_sh S 2 a0) (h : F_X2_heardKept n0 a0 μ = some r) (hq : Q (some (.int r)) S μ) : gw_ok l x (d + 2) sgX2_heardKept 0 0 [.ref a0] S μ Q := by
  refine gw_ok_of stX2_heardKept (lv0 := [.ref a0]) (Nat.le_of_ble_eq_true rfl) rfl rfl ?_
  intro K hK
  have hcc : 0 ≤ 0 := Nat.zero_le _
  have hss : 0 ≤ 0 := Nat.zero_le _
  have ka0_0 : gw_kd S a0 = 2 := (hS0 0 _ rfl).1
  unfold F_X2_heardKept at h
  refine hK _ _ _ _ _ _ _ ?_
  rw [fdX2_heardKept_0]
  simp only [gt_nil, true_and, eq_self, gt_aload_n, gt_rfk, gw_nth, gt_get_r, gt_get_i, gt_get_z, gt_bipush, gt_s1_0, gt_s2_0, gt_s3_0, gt_s4_0, gt_s1_1, gt_s2_1, gt_s3_1, gt_s4_1, gt_acpy, gt_iret, gt_retz, bkX2_heardKept_0, ka0_0]
  obtain ⟨r_1, e_3, h⟩ := gw_bnd h
  refine ⟨rfl, 0, 0, hcc, hss, ok_J9_min_7cf53 e_3 ?_⟩
  simp only [gt_nil, true_and, eq_self, gt_iret, gt_retz, Option.toList, List.cons_append, List.nil_append, Nat.add_zero, ka0_0]
  obtain rfl := gw_inj1 h
  exact ⟨hcc, hss, hq⟩
def F_X2_heardAt (n0 : Nat) (a0 : Nat) (v1 : Int32) (μ : gw_M) : Option (Int32) := (F_X2_heardKept n0 a0 μ).bind (fun (r_1 : Int32) => (F_X10_within n0 v1 0 (r_1 - (1 : Int32)) μ).bind (fun (r_5 : Int32) => (if ¬ r_5 = 0 then (F_X2_heardKept n0 a0 μ).bind (fun (r_10 : Int32) => (if 0 ≤ ((((μ a0 8) - r_10) + v1) - (((μ a0 8) - r_10) + v1) / (24 : Int32) * (24 : Int32)) ∧ ((((μ a0 8) - r_10) + v1) - (((μ a0 8) - r_10) + v1) / (24 : Int32) * (24 : Int32)).toNatClampNeg < 24 then some (μ (a0 + 6) ((((μ a0 8) - r_10) + v1) - (((μ a0 8) - r_10) + v1) / (24 : Int32) * (24 : Int32)).toNatClampNeg) else none)) else some (-1))))
theorem ok_X2_heardAt {l : Launch} {x : gw_C} {d : Nat} {S : gw_S} {Q : Option Value → gw_S → gw_M → Prop} {v1 : Int32} {a0 : Nat} {n0 : Nat} {μ : gw_M} {r} (hS0 : gw_sh S 2 a0) (h : F_X2_heardAt n0 a0 v1 μ = some r) (hq : Q (some (.int r)) S μ) : gw_ok l x (d + 3) sgX2_heardAt 0 0 [.ref a0, .int v1] S μ Q := by
  refine gw_ok_of stX2_heardAt (lv0 := [.ref a0, .int v1]) (Nat.le_of_ble_eq_true rfl) rfl rfl ?_
  intro K hK
  have hcc : 0 ≤ 0 := Nat.zero_le _
  have hss : 0 ≤ 0 := Nat.zero_le _
  have ka0_0 : gw_kd S a0 = 2 := (hS0 0 _ rfl).1
  have ra0_0_7 : gw_rf S a0 7 = a0 + 6 := (hS0 0 _ rfl).2.2 (7, 6) (by decide)
  have ka0_6 : gw_kd S (a0 + 6) = 12 := (hS0 6 _ rfl).1
  have la0_6 : gw_ln S (a0 + 6) = 24 := (hS0 6 _ rfl).2.1
  unfold F_X2_heardAt at h
  refine hK _ _ _ _ _ _ _ ?_
  rw [fdX2_heardAt_0]
  simp only [gt_nil, true_and, eq_self, gt_iload_n, gt_ink, gw_nth, gt_iconst, gt_aload_n, gt_rfk, gt_v0, gt_v1, gt_v2, gt_v3, gt_v4, gt_v5, gt_isub, gt_s1_0, gt_s2_0, gt_s3_0, gt_s4_0, gt_s1_1, gt_s2_1, gt_s3_1, gt_s4_1, gt_acpy, gt_if, gt_iret, gt_retz, bkX2_heardAt_0, ka0_0, ra0_0_7, ka0_6, la0_6]
  obtain ⟨r_1, e_3, h⟩ := gw_bnd h
  refine ⟨rfl, 0, 0, hcc, hss, ok_X2_heardKept hS0 e_3 ?_⟩
  simp only [gt_nil, true_and, eq_self, gt_iconst, gt_isub, gt_s1_0, gt_s2_0, gt_s3_0, gt_s4_0, gt_s1_1, gt_s2_1, gt_s3_1, gt_s4_1, gt_acpy, gt_if, gt_iret, gt_retz, Option.toList, List.cons_append, List.nil_append, Nat.add_zero, ka0_0, ra0_0_7, ka0_6, la0_6]
  obtain ⟨r_5, e_7, h⟩ := gw_bnd h
  refine ⟨rfl, 0, 0, hcc, hss, ok_X10_within e_7 ?_⟩
  intro hbr_5
  simp only [gt_nil, true_and, eq_self, gt_if, gt_iconst, gt_iret, gt_retz, Option.toList, List.cons_append, List.nil_append, Nat.add_zero, ka0_0, ra0_0_7, ka0_6, la0_6]
  refine ⟨fun c_9 => ?_, fun c_9 => ?_⟩
  · replace h := gw_ifp h c_9
    refine hK _ _ _ _ _ _ _ ?_
    rw [fdX2_heardAt_16]
    simp only [gt_nil, true_and, eq_self, gt_aload_n, gt_rfk, gw_nth, gt_get_r, gt_get_i, gt_get_z, gt_v0, gt_v1, gt_v2, gt_v3, gt_v4, gt_v5, gt_isub, gt_iload_n, gt_ink, gt_iadd, gt_bipush, gt_irem, gt_iaload, gt_iret, gt_retz, bkX2_heardAt_16, ka0_0, ra0_0_7, ka0_6, la0_6]
    obtain ⟨r_10, e_12, h⟩ := gw_bnd h
    refine ⟨rfl, 0, 0, hcc, hss, ok_X2_heardKept hS0 e_12 ?_⟩
    simp only [gt_nil, true_and, eq_self, gt_isub, gt_iload_n, gt_ink, gw_nth, gt_iadd, gt_bipush, gt_irem, gt_iaload, gt_iret, gt_retz, Option.toList, List.cons_append, List.nil_append, Nat.add_zero, ka0_0, ra0_0_7, ka0_6, la0_6]
    refine ⟨by decide, ?_⟩
    obtain ⟨c_14, h⟩ := gw_ife h
    refine ⟨c_14, ?_⟩
    obtain rfl := gw_inj1 h
    exact ⟨hcc, hss, hq⟩
  · replace h := gw_ifn h c_9
    obtain rfl := gw_inj1 h
    exact ⟨hcc, hss, hq⟩
def F_J9_max_7cf53 (n0 : Nat) (v0 : Int32) (v1 : Int32) (μ : gw_M) : Option (Int32) := (if v0 < v1 then some v1 else some v0)
theorem ok_J9_max_7cf53 {l : Launch} {x : gw_C} {d : Nat} {S : gw_S} {Q : Option Value → gw_S → gw_M → Prop} {v0 v1 : Int32} {n0 : Nat} {μ : gw_M} {r} (h : F_J9_max_7cf53 n0 v0 v1 μ = some r) (hq : Q (some (.int r)) S μ) : gw_ok l x (d + 1) sgJ9_max_7cf53 0 0 [.int v0, .int v1] S μ Q := by
  refine gw_ok_of stJ9_max_7cf53 (lv0 := [.int v0, .int v1]) (Nat.le_of_ble_eq_true rfl) rfl rfl ?_
  intro K hK
  have hcc : 0 ≤ 0 := Nat.zero_le _
  have hss : 0 ≤ 0 := Nat.zero_le _
  unfold F_J9_max_7cf53 at h
  refine hK _ _ _ _ _ _ _ ?_
  rw [fdJ9_max_7cf53_0]
  simp only [gt_nil, true_and, eq_self, gt_iload_n, gt_ink, gw_nth, gt_icmp, gt_goto, bkJ9_max_7cf53_0]
  refine ⟨fun c_1 => ?_, fun c_1 => ?_⟩
  · replace h := gw_ifp2 (gw_c2_lt _ _) h c_1
    refine hK _ _ _ _ _ _ _ ?_
    rw [fdJ9_max_7cf53_9]
    simp only [gt_nil, true_and, eq_self, gt_iload_n, gt_ink, gw_nth, bkJ9_max_7cf53_9]
    refine hK _ _ _ _ _ _ _ ?_
    rw [fdJ9_max_7cf53_10]
    simp only [gt_nil, true_and, eq_self, gt_iret, gt_retz, bkJ9_max_7cf53_10]
    obtain rfl := gw_inj1 h
    exact ⟨hcc, hss, hq⟩
  · replace h := gw_ifn2 (gw_c2_lt _ _) h c_1
    refine hK _ _ _ _ _ _ _ ?_
    rw [fdJ9_max_7cf53_10]
    simp only [gt_nil, true_and, eq_self, gt_iret, gt_retz, bkJ9_max_7cf53_10]
    obtain rfl := gw_inj1 h
    exact ⟨hcc, hss, hq⟩
def F_X2_noteTake (n0 : Nat) (a0 : Nat) (v1 : Int32) (v2 : Int32) (v3 : Int32) (μ : gw_M) : Option (gw_M) := (if 0 ≤ (v1 - (1 : Int32)) ∧ (v1 - (1 : Int32)).toNatClampNeg < 2 then (if 0 ≤ (v1 - (1 : Int32)) ∧ (v1 - (1 : Int32)).toNatClampNeg < 2 then gw_let (gw_up μ (a0 + 9) (v1 - (1 : Int32)).toNatClampNeg ((μ (a0 + 9) (v1 - (1 : Int32)).toNatClampNeg) + (1 : Int32))) (fun (μ_3 : gw_M) => (if 0 ≤ (v1 - (1 : Int32)) ∧ (v1 - (1 : Int32)).toNatClampNeg < 2 then gw_let (gw_up μ_3 (a0 + 10) (v1 - (1 : Int32)).toNatClampNeg v2) (fun (μ_5 : gw_M) => (if 0 ≤ (v1 - (1 : Int32)) ∧ (v1 - (1 : Int32)).toNatClampNeg < 2 then (F_J9_max_7cf53 n0 (μ_5 (a0 + 11) (v1 - (1 : Int32)).toNatClampNeg) v3 μ_5).bind (fun (r_7 : Int32) => (if 0 ≤ (v1 - (1 : Int32)) ∧ (v1 - (1 : Int32)).toNatClampNeg < 2 then gw_let (gw_up μ_5 (a0 + 11) (v1 - (1 : Int32)).toNatClampNeg r_7) (fun (μ_12 : gw_M) => some μ_12) else none)) else none)) else none)) else none) else none)
theorem ok_X2_noteTake {l : Launch} {x : gw_C} {d : Nat} {S : gw_S} {Q : Option Value → gw_S → gw_M → Prop} {v1 v2 v3 : Int32} {a0 : Nat} {n0 : Nat} {μ : gw_M} {μ'} (hS0 : gw_sh S 2 a0) (h : F_X2_noteTake n0 a0 v1 v2 v3 μ = some μ') (hq : Q none S μ') : gw_ok l x (d + 2) sgX2_noteTake 0 0 [.ref a0, .int v1, .int v2, .int v3] S μ Q := by
  refine gw_ok_of stX2_noteTake (lv0 := [.ref a0, .int v1, .int v2, .int v3]) (Nat.le_of_ble_eq_true rfl) rfl rfl ?_
  intro K hK
  have hcc : 0 ≤ 0 := Nat.zero_le _
  have hss : 0 ≤ 0 := Nat.zero_le _
  have ka0_0 : gw_kd S a0 = 2 := (hS0 0 _ rfl).1
  have ra0_0_12 : gw_rf S a0 12 = a0 + 9 := (hS0 0 _ rfl).2.2 (12, 9) (by decide)
  have ra0_0_13 : gw_rf S a0 13 = a0 + 10 := (hS0 0 _ rfl).2.2 (13, 10) (by decide)
  have ra0_0_14 : gw_rf S a0 14 = a0 + 11 := (hS0 0 _ rfl).2.2 (14, 11) (by decide)
  have ka0_10 : gw_kd S (a0 + 10) = 12 := (hS0 10 _ rfl).1
  have la0_10 : gw_ln S (a0 + 10) = 2 := (hS0 10 _ rfl).2.1
  have ka0_11 : gw_kd S (a0 + 11) = 12 := (hS0 11 _ rfl).1
  have la0_11 : gw_ln S (a0 + 11) = 2 := (hS0 11 _ rfl).2.1
  have ka0_9 : gw_kd S (a0 + 9) = 12 := (hS0 9 _ rfl).1
  have la0_9 : gw_ln S (a0 + 9) = 2 := (hS0 9 _ rfl).2.1
  unfold F_X2_noteTake at h
  refine hK _ _ _ _ _ _ _ ?_
  rw [fdX2_noteTake_0]
  simp only [gt_nil, true_and, eq_self, gt_aload_n, gt_rfk, gw_nth, gt_get_r, gt_get_i, gt_get_z, gt_iload_n, gt_ink, gt_iconst, gt_isub, gt_dup2, gt_iaload, gt_iadd, gt_iastore, gt_s1_0, gt_s2_0, gt_s3_0, gt_s4_0, gt_s1_1, gt_s2_1, gt_s3_1, gt_s4_1, gt_acpy, gt_vret, bkX2_noteTake_0, ka0_0, ra0_0_12, ra0_0_13, ra0_0_14, ka0_10, la0_10, ka0_11, la0_11, ka0_9, la0_9]
  obtain ⟨c_1, h⟩ := gw_ife h
  refine ⟨c_1, ?_⟩
  obtain ⟨c_2, h⟩ := gw_ife h
  refine ⟨c_2, ?_⟩
  obtain ⟨μ_3, hμ_3, h⟩ := gw_lt h
  try rw [← hμ_3]
  obtain ⟨c_4, h⟩ := gw_ife h
  refine ⟨c_4, ?_⟩
  obtain ⟨μ_5, hμ_5, h⟩ := gw_lt h
  try rw [← hμ_5]
  obtain ⟨c_6, h⟩ := gw_ife h
  refine ⟨c_6, ?_⟩
  obtain ⟨r_7, e_9, h⟩ := gw_bnd h
  refine ⟨rfl, 0, 0, hcc, hss, ok_J9_max_7cf53 e_9 ?_⟩
  simp only [gt_nil, true_and, eq_self, gt_iastore, gt_vret, Option.toList, List.cons_append, List.nil_append, Nat.add_zero, ka0_0, ra0_0_12, ra0_0_13, ra0_0_14, ka0_10, la0_10, ka0_11, la0_11, ka0_9, la0_9]
  obtain ⟨c_11, h⟩ := gw_ife h
  refine ⟨c_11, ?_⟩
  obtain ⟨μ_12, hμ_12, h⟩ := gw_lt h
  try rw [← hμ_12]
  obtain rfl := gw_inj1 h
  exact ⟨hcc, hss, hq⟩
def F_X4_copyFrom (n0 : Nat) (a0 : Nat) (p1 : Nat) (μ : gw_M) : Option (gw_M) := (F_X8_copyFrom n0 (a0 + 1) (p1 + 1) μ).bind (fun (μ_2 : gw_M) => gw_let (gw_cpy μ_2 (p1 + 5) (a0 + 5) 0 0 10) (fun (μ_5 : gw_M) => gw_let (gw_cpy μ_5 (p1 + 6) (a0 + 6) 0 0 16) (fun (μ_6 : gw_M) => gw_let (gw_up μ_6 a0 3 (μ_6 p1 3)) (fun (μ_7 : gw_M) => gw_let (gw_up μ_7 a0 4 (μ_7 p1 4)) (fun (μ_8 : gw_M) => gw_let (gw_up μ_8 a0 5 (μ_8 p1 5)) (fun (μ_9 : gw_M) => some μ_9))))))
theorem ok_X4_copyFrom {l : Launch} {x : gw_C} {d : Nat} {S : gw_S} {Q : Option Value → gw_S → gw_M → Prop} {a0 p1 : Nat} {n0 : Nat} {μ : gw_M} {μ'} (hS0 : gw_sh S 4 a0) (hpp1 : gw_sh S 4 p1) (h : F_X4_copyFrom n0 a0 p1 μ = some μ') (hq : Q none S μ') : gw_ok l x (d + 2) sgX4_copyFrom 0 0 [.ref a0, .ref p1] S μ Q := by
  refine gw_ok_of stX4_copyFrom (lv0 := [.ref a0, .ref p1]) (Nat.le_of_ble_eq_true rfl) rfl rfl ?_
  intro K hK
  have hcc : 0 ≤ 0 := Nat.zero_le _
  have hss : 0 ≤ 0 := Nat.zero_le _
  have ka0_0 : gw_kd S a0 = 4 := (hS0 0 _ rfl).1
  have ra0_0_0 : gw_rf S a0 0 = a0 + 1 := (hS0 0 _ rfl).2.2 (0, 1) (by decide)
  have ra0_0_1 : gw_rf S a0 1 = a0 + 5 := (hS0 0 _ rfl).2.2 (1, 5) (by decide)
  have ra0_0_2 : gw_rf S a0 2 = a0 + 6 := (hS0 0 _ rfl).2.2 (2, 6) (by decide)
  have ka0_1 : gw_kd S (a0 + 1) = 8 := (hS0 1 _ rfl).1
  have ka0_5 : gw_kd S (a0 + 5) = 12 := (hS0 5 _ rfl).1
  have la0_5 : gw_ln S (a0 + 5) = 10 := (hS0 5 _ rfl).2.1
  have ka0_6 : gw_kd S (a0 + 6) = 12 := (hS0 6 _ rfl).1
  have la0_6 : gw_ln S (a0 + 6) = 16 := (hS0 6 _ rfl).2.1
  have kp1_0 : gw_kd S p1 = 4 := (hpp1 0 _ rfl).1
  have rp1_0_0 : gw_rf S p1 0 = p1 + 1 := (hpp1 0 _ rfl).2.2 (0, 1) (by decide)
  have rp1_0_1 : gw_rf S p1 1 = p1 + 5 := (hpp1 0 _ rfl).2.2 (1, 5) (by decide)
  have rp1_0_2 : gw_rf S p1 2 = p1 + 6 := (hpp1 0 _ rfl).2.2 (2, 6) (by decide)
  have kp1_1 : gw_kd S (p1 + 1) = 8 := (hpp1 1 _ rfl).1
  have kp1_5 : gw_kd S (p1 + 5) = 12 := (hpp1 5 _ rfl).1
  have lp1_5 : gw_ln S (p1 + 5) = 10 := (hpp1 5 _ rfl).2.1
  have kp1_6 : gw_kd S (p1 + 6) = 12 := (hpp1 6 _ rfl).1
  have lp1_6 : gw_ln S (p1 + 6) = 16 := (hpp1 6 _ rfl).2.1
  unfold F_X4_copyFrom at h
  refine hK _ _ _ _ _ _ _ ?_
  rw [fdX4_copyFrom_0]
  simp only [gt_nil, true_and, eq_self, gt_aload_n, gt_rfk, gw_nth, gt_get_r, gt_get_i, gt_get_z, gt_v0, gt_v1, gt_v2, gt_v3, gt_v4, gt_v5, gt_iconst, gt_bipush, gt_s1_0, gt_s2_0, gt_s3_0, gt_s4_0, gt_s1_1, gt_s2_1, gt_s3_1, gt_s4_1, gt_acpy, gt_put_i, gt_putz, gt_vret, bkX4_copyFrom_0, ka0_0, ra0_0_0, ra0_0_1, ra0_0_2, ka0_1, ka0_5, la0_5, ka0_6, la0_6, kp1_0, rp1_0_0, rp1_0_1, rp1_0_2, kp1_1, kp1_5, lp1_5, kp1_6, lp1_6, (show Int32.toNatClampNeg 0 = 0 from rfl), (show Int32.toNatClampNeg 10 = 10 from rfl), (show Int32.toNatClampNeg 16 = 16 from rfl)]
  obtain ⟨μ_2, e_3, h⟩ := gw_bnd h
  refine ⟨rfl, 0, 0, hcc, hss, ok_X8_copyFrom (gw_sub hS0 8 1 (by decide +kernel)) (gw_sub hpp1 8 1 (by decide +kernel)) e_3 ?_⟩
  simp only [gt_nil, true_and, eq_self, gt_aload_n, gt_rfk, gw_nth, gt_get_r, gt_get_i, gt_get_z, gt_iconst, gt_bipush, gt_s1_0, gt_s2_0, gt_s3_0, gt_s4_0, gt_s1_1, gt_s2_1, gt_s3_1, gt_s4_1, gt_acpy, gt_put_i, gt_putz, gt_vret, Option.toList, List.cons_append, List.nil_append, Nat.add_zero, ka0_0, ra0_0_0, ra0_0_1, ra0_0_2, ka0_1, ka0_5, la0_5, ka0_6, la0_6, kp1_0, rp1_0_0, rp1_0_1, rp1_0_2, kp1_1, kp1_5, lp1_5, kp1_6, lp1_6, (show Int32.toNatClampNeg 0 = 0 from rfl), (show Int32.toNatClampNeg 10 = 10 from rfl), (show Int32.toNatClampNeg 16 = 16 from rfl)]
  refine ⟨by decide, by decide, by decide, by decide, by decide, ?_⟩
  obtain ⟨μ_5, hμ_5, h⟩ := gw_lt h
  try rw [← hμ_5]
  refine ⟨by decide, by decide, by decide, by decide, by decide, ?_⟩
  obtain ⟨μ_6, hμ_6, h⟩ := gw_lt h
  try rw [← hμ_6]
  obtain ⟨μ_7, hμ_7, h⟩ := gw_lt h
  try rw [← hμ_7]
  obtain ⟨μ_8, hμ_8, h⟩ := gw_lt h
  try rw [← hμ_8]
  obtain ⟨μ_9, hμ_9, h⟩ := gw_lt h
  try rw [← hμ_9]
  obtain rfl := gw_inj1 h
  exact ⟨hcc, hss, hq⟩
def F_X9_copyFrom (n0 : Nat) (a0 : Nat) (p1 : Nat) (μ : gw_M) : Option (gw_M) := gw_let (gw_cpy μ (p1 + 1) (a0 + 1) 0 0 12) (fun (μ_1 : gw_M) => gw_let (gw_cpy μ_1 (p1 + 2) (a0 + 2) 0 0 12) (fun (μ_2 : gw_M) => gw_let (gw_cpy μ_2 (p1 + 3) (a0 + 3) 0 0 12) (fun (μ_3 : gw_M) => gw_let (gw_up μ_3 a0 3 (μ_3 p1 3)) (fun (μ_4 : gw_M) => some μ_4))))
theorem ok_X9_copyFrom {l : Launch} {x : gw_C} {d : Nat} {S : gw_S} {Q : Option Value → gw_S → gw_M → Prop} {a0 p1 : Nat} {n0 : Nat} {μ : gw_M} {μ'} (hS0 : gw_sh S 9 a0) (hpp1 : gw_sh S 9 p1) (h : F_X9_copyFrom n0 a0 p1 μ = some μ') (hq : Q none S μ') : gw_ok l x (d + 1) sgX9_copyFrom 0 0 [.ref a0, .ref p1] S μ Q := by
  refine gw_ok_of stX9_copyFrom (lv0 := [.ref a0, .ref p1]) (Nat.le_of_ble_eq_true rfl) rfl rfl ?_
  intro K hK
  have hcc : 0 ≤ 0 := Nat.zero_le _
  have hss : 0 ≤ 0 := Nat.zero_le _
  have ka0_0 : gw_kd S a0 = 9 := (hS0 0 _ rfl).1
  have ra0_0_0 : gw_rf S a0 0 = a0 + 1 := (hS0 0 _ rfl).2.2 (0, 1) (by decide)
  have ra0_0_1 : gw_rf S a0 1 = a0 + 2 := (hS0 0 _ rfl).2.2 (1, 2) (by decide)
  have ra0_0_2 : gw_rf S a0 2 = a0 + 3 := (hS0 0 _ rfl).2.2 (2, 3) (by decide)
  have ka0_1 : gw_kd S (a0 + 1) = 12 := (hS0 1 _ rfl).1
  have la0_1 : gw_ln S (a0 + 1) = 12 := (hS0 1 _ rfl).2.1
  have ka0_2 : gw_kd S (a0 + 2) = 12 := (hS0 2 _ rfl).1
  have la0_2 : gw_ln S (a0 + 2) = 12 := (hS0 2 _ rfl).2.1
  have ka0_3 : gw_kd S (a0 + 3) = 12 := (hS0 3 _ rfl).1
  have la0_3 : gw_ln S (a0 + 3) = 12 := (hS0 3 _ rfl).2.1
  have kp1_0 : gw_kd S p1 = 9 := (hpp1 0 _ rfl).1
  have rp1_0_0 : gw_rf S p1 0 = p1 + 1 := (hpp1 0 _ rfl).2.2 (0, 1) (by decide)
  have rp1_0_1 : gw_rf S p1 1 = p1 + 2 := (hpp1 0 _ rfl).2.2 (1, 2) (by decide)
  have rp1_0_2 : gw_rf S p1 2 = p1 + 3 := (hpp1 0 _ rfl).2.2 (2, 3) (by decide)
  have kp1_1 : gw_kd S (p1 + 1) = 12 := (hpp1 1 _ rfl).1
  have lp1_1 : gw_ln S (p1 + 1) = 12 := (hpp1 1 _ rfl).2.1
  have kp1_2 : gw_kd S (p1 + 2) = 12 := (hpp1 2 _ rfl).1
  have lp1_2 : gw_ln S (p1 + 2) = 12 := (hpp1 2 _ rfl).2.1
  have kp1_3 : gw_kd S (p1 + 3) = 12 := (hpp1 3 _ rfl).1
  have lp1_3 : gw_ln S (p1 + 3) = 12 := (hpp1 3 _ rfl).2.1
  unfold F_X9_copyFrom at h
  refine hK _ _ _ _ _ _ _ ?_
  rw [fdX9_copyFrom_0]
  simp only [gt_nil, true_and, eq_self, gt_aload_n, gt_rfk, gw_nth, gt_get_r, gt_get_i, gt_get_z, gt_iconst, gt_bipush, gt_s1_0, gt_s2_0, gt_s3_0, gt_s4_0, gt_s1_1, gt_s2_1, gt_s3_1, gt_s4_1, gt_acpy, gt_put_i, gt_putz, gt_vret, bkX9_copyFrom_0, ka0_0, ra0_0_0, ra0_0_1, ra0_0_2, ka0_1, la0_1, ka0_2, la0_2, ka0_3, la0_3, kp1_0, rp1_0_0, rp1_0_1, rp1_0_2, kp1_1, lp1_1, kp1_2, lp1_2, kp1_3, lp1_3, (show Int32.toNatClampNeg 0 = 0 from rfl), (show Int32.toNatClampNeg 12 = 12 from rfl)]
  refine ⟨by decide, by decide, by decide, by decide, by decide, ?_⟩
  obtain ⟨μ_1, hμ_1, h⟩ := gw_lt h
  try rw [← hμ_1]
  refine ⟨by decide, by decide, by decide, by decide, by decide, ?_⟩
  obtain ⟨μ_2, hμ_2, h⟩ := gw_lt h
  try rw [← hμ_2]
  refine ⟨by decide, by decide, by decide, by decide, by decide, ?_⟩
  obtain ⟨μ_3, hμ_3, h⟩ := gw_lt h
  try rw [← hμ_3]
  obtain ⟨μ_4, hμ_4, h⟩ := gw_lt h
  try rw [← hμ_4]
  obtain rfl := gw_inj1 h
  exact ⟨hcc, hss, hq⟩
def F_X3_copyFrom_43 (n0 : Nat) (a0 : Nat) : Nat → Nat → Int32 → gw_M → Option (gw_M)
  | 0, _, _, _ => none
  | n + 1, p1, v2, μ => (if 3 ≤ v2 then gw_let (gw_up μ a0 5 (μ p1 5)) (fun (μ_2 : gw_M) => gw_let (gw_up μ_2 a0 6 (μ_2 p1 6)) (fun (μ_3 : gw_M) => gw_let (gw_up μ_3 a0 7 (μ_3 p1 7)) (fun (μ_4 : gw_M) => gw_let (gw_cpy μ_4 (p1 + 19) (a0 + 19) 0 0 2) (fun (μ_5 : gw_M) => gw_let (gw_cpy μ_5 (p1 + 20) (a0 + 20) 0 0 10) (fun (μ_6 : gw_M) => gw_let (gw_up μ_6 a0 10 (μ_6 p1 10)) (fun (μ_7 : gw_M) => gw_let (gw_up μ_7 a0 11 (μ_7 p1 11)) (fun (μ_8 : gw_M) => gw_let (gw_up μ_8 a0 12 (μ_8 p1 12)) (fun (μ_9 : gw_M) => (F_X9_copyFrom n0 (a0 + 21) (p1 + 21) μ_9).bind (fun (μ_11 : gw_M) => (F_X2_copyFrom n0 (a0 + 25) (p1 + 25) μ_11).bind (fun (μ_15 : gw_M) => some μ_15)))))))))) else (if 0 ≤ v2 ∧ v2.toNatClampNeg < 3 then gw_let (a0 + 37 + 15 * v2.toNatClampNeg) (fun (q_19 : Nat) => (if 0 ≤ v2 ∧ v2.toNatClampNeg < 3 then gw_let (p1 + 37 + 15 * v2.toNatClampNeg) (fun (q_21 : Nat) => (F_X1_copyFrom n0 q_19 q_21 μ).bind (fun (μ_23 : gw_M) => gw_let (v2 + 1) (fun (w_26 : Int32) => F_X3_copyFrom_43 n0 a0 n p1 w_26 μ_23))) else none)) else none))
def F_X3_copyFrom (n0 : Nat) (a0 : Nat) (p1 : Nat) (μ : gw_M) : Option (gw_M) := (F_X4_copyFrom n0 (a0 + 1) (p1 + 1) μ).bind (fun (μ_2 : gw_M) => (F_X8_copyFrom n0 (a0 + 8) (p1 + 8) μ_2).bind (fun (μ_6 : gw_M) => gw_let (gw_up μ_6 a0 2 (μ_6 p1 2)) (fun (μ_9 : gw_M) => (F_X0_copyFrom n0 (a0 + 12) (p1 + 12) μ_9).bind (fun (μ_11 : gw_M) => F_X3_copyFrom_43 n0 a0 n0 p1 0 μ_11))))
theorem B_X3_copyFrom_43 {l : Launch} {x : gw_C} {d : Nat} {S : gw_S} {Q : Option Value → gw_S → gw_M → Prop} {K : Nat → gw_Kt} {mc ms cc ss : Nat} (hcc : cc ≤ mc) (hss : ss ≤ ms) (hK : gw_cl l x (d + 3) mc ms bsX3_copyFrom Q K) {a0 : Nat} (hS0 : gw_sh S 3 a0) {n0 : Nat} : ∀ {n : Nat} {p1 v2} {μ : gw_M} {μ'}, gw_sh S 3 p1 → F_X3_copyFrom_43 n0 a0 n p1 v2 μ = some μ' → Q none S μ' → K 43 [.ref a0, .ref p1, .int v2] [] S μ cc ss := by
  have ka0_0 : gw_kd S a0 = 3 := (hS0 0 _ rfl).1
  have ra0_0_13 : gw_rf S a0 13 = a0 + 21 := (hS0 0 _ rfl).2.2 (13, 21) (by decide)
  have ra0_0_14 : gw_rf S a0 14 = a0 + 25 := (hS0 0 _ rfl).2.2 (14, 25) (by decide)
  have ra0_0_4 : gw_rf S a0 4 = a0 + 18 := (hS0 0 _ rfl).2.2 (4, 18) (by decide)
  have ra0_0_8 : gw_rf S a0 8 = a0 + 19 := (hS0 0 _ rfl).2.2 (8, 19) (by decide)
  have ra0_0_9 : gw_rf S a0 9 = a0 + 20 := (hS0 0 _ rfl).2.2 (9, 20) (by decide)
  have ka0_18 : gw_kd S (a0 + 18) = 13 := (hS0 18 _ rfl).1
  have la0_18 : gw_ln S (a0 + 18) = 3 := (hS0 18 _ rfl).2.1
  have ka0_19 : gw_kd S (a0 + 19) = 12 := (hS0 19 _ rfl).1
  have la0_19 : gw_ln S (a0 + 19) = 2 := (hS0 19 _ rfl).2.1
  have ka0_20 : gw_kd S (a0 + 20) = 12 := (hS0 20 _ rfl).1
  have la0_20 : gw_ln S (a0 + 20) = 10 := (hS0 20 _ rfl).2.1
  have ka0_21 : gw_kd S (a0 + 21) = 9 := (hS0 21 _ rfl).1
  have ka0_25 : gw_kd S (a0 + 25) = 2 := (hS0 25 _ rfl).1
  intro n
  induction n with
  | zero => intro p1 v2 μ μ' hpp1 h hq; simp [F_X3_copyFrom_43] at h
  | succ n ih =>
    intro p1 v2 μ μ' hpp1 h hq
    have kp1_0 : gw_kd S p1 = 3 := (hpp1 0 _ rfl).1
    have rp1_0_13 : gw_rf S p1 13 = p1 + 21 := (hpp1 0 _ rfl).2.2 (13, 21) (by decide)
    have rp1_0_14 : gw_rf S p1 14 = p1 + 25 := (hpp1 0 _ rfl).2.2 (14, 25) (by decide)
    have rp1_0_4 : gw_rf S p1 4 = p1 + 18 := (hpp1 0 _ rfl).2.2 (4, 18) (by decide)
    have rp1_0_8 : gw_rf S p1 8 = p1 + 19 := (hpp1 0 _ rfl).2.2 (8, 19) (by decide)
    have rp1_0_9 : gw_rf S p1 9 = p1 + 20 := (hpp1 0 _ rfl).2.2 (9, 20) (by decide)
    have kp1_18 : gw_kd S (p1 + 18) = 13 := (hpp1 18 _ rfl).1
    have lp1_18 : gw_ln S (p1 + 18) = 3 := (hpp1 18 _ rfl).2.1
    have kp1_19 : gw_kd S (p1 + 19) = 12 := (hpp1 19 _ rfl).1
    have lp1_19 : gw_ln S (p1 + 19) = 2 := (hpp1 19 _ rfl).2.1
    have kp1_20 : gw_kd S (p1 + 20) = 12 := (hpp1 20 _ rfl).1
    have lp1_20 : gw_ln S (p1 + 20) = 10 := (hpp1 20 _ rfl).2.1
    have kp1_21 : gw_kd S (p1 + 21) = 9 := (hpp1 21 _ rfl).1
    have kp1_25 : gw_kd S (p1 + 25) = 2 := (hpp1 25 _ rfl).1
    simp only [F_X3_copyFrom_43] at h
    refine hK _ _ _ _ _ _ _ ?_
    rw [fdX3_copyFrom_43]
    simp only [gt_nil, true_and, eq_self, gt_iload_n, gt_ink, gw_nth, gt_iconst, gt_icmp, gt_aload_n, gt_rfk, gt_get_r, gt_get_i, gt_get_z, gt_aaload, true_or, or_true, gt_v0, gt_v1, gt_v2, gt_v3, gt_v4, gt_v5, gt_iinc, gw_set, gt_goto, bkX3_copyFrom_43, ka0_0, ra0_0_13, ra0_0_14, ra0_0_4, ra0_0_8, ra0_0_9, ka0_18, la0_18, ka0_19, la0_19, ka0_20, la0_20, ka0_21, ka0_25, kp1_0, rp1_0_13, rp1_0_14, rp1_0_4, rp1_0_8, rp1_0_9, kp1_18, lp1_18, kp1_19, lp1_19, kp1_20, lp1_20, kp1_21, kp1_25, (show Int32.ofNat 2 = 2 from rfl), (show Int32.toNatClampNeg 0 = 0 from rfl), (show Int32.toNatClampNeg 10 = 10 from rfl), (show Int32.toNatClampNeg 2 = 2 from rfl)]
    refine ⟨fun c_1 => ?_, fun c_1 => ?_⟩
    · replace h := gw_ifp2 (gw_c2_ge _ _) h c_1
      refine hK _ _ _ _ _ _ _ ?_
      rw [fdX3_copyFrom_69]
      simp only [gt_nil, true_and, eq_self, gt_aload_n, gt_rfk, gw_nth, gt_get_r, gt_get_i, gt_get_z, gt_put_i, gt_putz, gt_iconst, gt_alen, true_or, or_true, gt_s1_0, gt_s2_0, gt_s3_0, gt_s4_0, gt_s1_1, gt_s2_1, gt_s3_1, gt_s4_1, gt_acpy, gt_bipush, gt_v0, gt_v1, gt_v2, gt_v3, gt_v4, gt_v5, gt_vret, bkX3_copyFrom_69, ka0_0, ra0_0_13, ra0_0_14, ra0_0_4, ra0_0_8, ra0_0_9, ka0_18, la0_18, ka0_19, la0_19, ka0_20, la0_20, ka0_21, ka0_25, kp1_0, rp1_0_13, rp1_0_14, rp1_0_4, rp1_0_8, rp1_0_9, kp1_18, lp1_18, kp1_19, lp1_19, kp1_20, lp1_20, kp1_21, kp1_25, (show Int32.ofNat 2 = 2 from rfl), (show Int32.toNatClampNeg 0 = 0 from rfl), (show Int32.toNatClampNeg 10 = 10 from rfl), (show Int32.toNatClampNeg 2 = 2 from rfl)]
      obtain ⟨μ_2, hμ_2, h⟩ := gw_lt h
      try rw [← hμ_2]
      obtain ⟨μ_3, hμ_3, h⟩ := gw_lt h
      try rw [← hμ_3]
      obtain ⟨μ_4, hμ_4, h⟩ := gw_lt h
      try rw [← hμ_4]
      refine ⟨by decide, by decide, by decide, by decide, by decide, ?_⟩
      obtain ⟨μ_5, hμ_5, h⟩ := gw_lt h
      try rw [← hμ_5]
      refine ⟨by decide, by decide, by decide, by decide, by decide, ?_⟩
      obtain ⟨μ_6, hμ_6, h⟩ := gw_lt h
      try rw [← hμ_6]
      obtain ⟨μ_7, hμ_7, h⟩ := gw_lt h
      try rw [← hμ_7]
      obtain ⟨μ_8, hμ_8, h⟩ := gw_lt h
      try rw [← hμ_8]
      obtain ⟨μ_9, hμ_9, h⟩ := gw_lt h
      try rw [← hμ_9]
      obtain ⟨μ_11, e_12, h⟩ := gw_bnd h
      refine ⟨rfl, 0, 0, hcc, hss, ok_X9_copyFrom (gw_sub hS0 9 21 (by decide +kernel)) (gw_sub hpp1 9 21 (by decide +kernel)) e_12 ?_⟩
      simp only [gt_nil, true_and, eq_self, gt_aload_n, gt_rfk, gw_nth, gt_get_r, gt_get_i, gt_get_z, gt_v0, gt_v1, gt_v2, gt_v3, gt_v4, gt_v5, gt_vret, Option.toList, List.cons_append, List.nil_append, Nat.add_zero, ka0_0, ra0_0_13, ra0_0_14, ra0_0_4, ra0_0_8, ra0_0_9, ka0_18, la0_18, ka0_19, la0_19, ka0_20, la0_20, ka0_21, ka0_25, kp1_0, rp1_0_13, rp1_0_14, rp1_0_4, rp1_0_8, rp1_0_9, kp1_18, lp1_18, kp1_19, lp1_19, kp1_20, lp1_20, kp1_21, kp1_25, (show Int32.ofNat 2 = 2 from rfl), (show Int32.toNatClampNeg 0 = 0 from rfl), (show Int32.toNatClampNeg 10 = 10 from rfl), (show Int32.toNatClampNeg 2 = 2 from rfl)]
      obtain ⟨μ_15, e_16, h⟩ := gw_bnd h
      refine ⟨rfl, 0, 0, hcc, hss, ok_X2_copyFrom (gw_sub hS0 2 25 (by decide +kernel)) (gw_sub hpp1 2 25 (by decide +kernel)) e_16 ?_⟩
      simp only [gt_nil, true_and, eq_self, gt_vret, Option.toList, List.cons_append, List.nil_append, Nat.add_zero, ka0_0, ra0_0_13, ra0_0_14, ra0_0_4, ra0_0_8, ra0_0_9, ka0_18, la0_18, ka0_19, la0_19, ka0_20, la0_20, ka0_21, ka0_25, kp1_0, rp1_0_13, rp1_0_14, rp1_0_4, rp1_0_8, rp1_0_9, kp1_18, lp1_18, kp1_19, lp1_19, kp1_20, lp1_20, kp1_21, kp1_25, (show Int32.ofNat 2 = 2 from rfl), (show Int32.toNatClampNeg 0 = 0 from rfl), (show Int32.toNatClampNeg 10 = 10 from rfl), (show Int32.toNatClampNeg 2 = 2 from rfl)]
      obtain rfl := gw_inj1 h
      exact ⟨hcc, hss, hq⟩
    · replace h := gw_ifn2 (gw_c2_ge _ _) h c_1
      obtain ⟨c_18, h⟩ := gw_ife h
      refine ⟨c_18, ?_⟩
      obtain ⟨q_19, hq_19, h⟩ := gw_lt h
      obtain ⟨hsq_19, hrq_19⟩ : gw_sh S 1 (a0 + 37 + 15 * v2.toNatClampNeg) ∧ gw_rf S (a0 + 18) v2.toNatClampNeg = a0 + 37 + 15 * v2.toNatClampNeg := gw_sub_in hS0 c_18.2
      rw [← hq_19] at hsq_19 hrq_19
      have kq_19_0 : gw_kd S q_19 = 1 := (hsq_19 0 _ rfl).1
      simp only [gt_nil, true_and, eq_self, gt_aload_n, gt_rfk, gw_nth, gt_get_r, gt_get_i, gt_get_z, gt_iload_n, gt_ink, gt_aaload, true_or, or_true, gt_v0, gt_v1, gt_v2, gt_v3, gt_v4, gt_v5, gt_iinc, gw_set, gt_goto, hrq_19, ka0_0, ra0_0_13, ra0_0_14, ra0_0_4, ra0_0_8, ra0_0_9, ka0_18, la0_18, ka0_19, la0_19, ka0_20, la0_20, ka0_21, ka0_25, kp1_0, rp1_0_13, rp1_0_14, rp1_0_4, rp1_0_8, rp1_0_9, kp1_18, lp1_18, kp1_19, lp1_19, kp1_20, lp1_20, kp1_21, kp1_25, kq_19_0, (show Int32.ofNat 2 = 2 from rfl), (show Int32.toNatClampNeg 0 = 0 from rfl), (show Int32.toNatClampNeg 10 = 10 from rfl), (show Int32.toNatClampNeg 2 = 2 from rfl)]
      obtain ⟨c_20, h⟩ := gw_ife h
      refine ⟨c_20, ?_⟩
      obtain ⟨q_21, hq_21, h⟩ := gw_lt h
      obtain ⟨hsq_21, hrq_21⟩ : gw_sh S 1 (p1 + 37 + 15 * v2.toNatClampNeg) ∧ gw_rf S (p1 + 18) v2.toNatClampNeg = p1 + 37 + 15 * v2.toNatClampNeg := gw_sub_in hpp1 c_20.2
      rw [← hq_21] at hsq_21 hrq_21
      have kq_21_0 : gw_kd S q_21 = 1 := (hsq_21 0 _ rfl).1
      simp only [gt_nil, true_and, eq_self, gt_v0, gt_v1, gt_v2, gt_v3, gt_v4, gt_v5, gt_iinc, gt_ink, gw_nth, gw_set, gt_goto, hrq_21, ka0_0, ra0_0_13, ra0_0_14, ra0_0_4, ra0_0_8, ra0_0_9, ka0_18, la0_18, ka0_19, la0_19, ka0_20, la0_20, ka0_21, ka0_25, kp1_0, rp1_0_13, rp1_0_14, rp1_0_4, rp1_0_8, rp1_0_9, kp1_18, lp1_18, kp1_19, lp1_19, kp1_20, lp1_20, kp1_21, kp1_25, kq_19_0, kq_21_0, (show Int32.ofNat 2 = 2 from rfl), (show Int32.toNatClampNeg 0 = 0 from rfl), (show Int32.toNatClampNeg 10 = 10 from rfl), (show Int32.toNatClampNeg 2 = 2 from rfl)]
      obtain ⟨μ_23, e_24, h⟩ := gw_bnd h
      refine ⟨rfl, 0, 0, hcc, hss, ok_X1_copyFrom hsq_19 hsq_21 e_24 ?_⟩
      simp only [gt_nil, true_and, eq_self, gt_iinc, gt_ink, gw_nth, gw_set, gt_goto, Option.toList, List.cons_append, List.nil_append, Nat.add_zero, ka0_0, ra0_0_13, ra0_0_14, ra0_0_4, ra0_0_8, ra0_0_9, ka0_18, la0_18, ka0_19, la0_19, ka0_20, la0_20, ka0_21, ka0_25, kp1_0, rp1_0_13, rp1_0_14, rp1_0_4, rp1_0_8, rp1_0_9, kp1_18, lp1_18, kp1_19, lp1_19, kp1_20, lp1_20, kp1_21, kp1_25, kq_19_0, kq_21_0, (show Int32.ofNat 2 = 2 from rfl), (show Int32.toNatClampNeg 0 = 0 from rfl), (show Int32.toNatClampNeg 10 = 10 from rfl), (show Int32.toNatClampNeg 2 = 2 from rfl)]
      obtain ⟨w_26, hw_26, h⟩ := gw_lt h
      try rw [← hw_26]
      exact ih hpp1 h hq
theorem ok_X3_copyFrom {l : Launch} {x : gw_C} {d : Nat} {S : gw_S} {Q : Option Value → gw_S → gw_M → Prop} {a0 p1 : Nat} {n0 : Nat} {μ : gw_M} {μ'} (hS0 : gw_sh S 3 a0) (hpp1 : gw_sh S 3 p1) (h : F_X3_copyFrom n0 a0 p1 μ = some μ') (hq : Q none S μ') : gw_ok l x (d + 4) sgX3_copyFrom 0 0 [.ref a0, .ref p1] S μ Q := by
  refine gw_ok_of stX3_copyFrom (lv0 := [.ref a0, .ref p1, .retAddr 0]) (Nat.le_of_ble_eq_true rfl) rfl rfl ?_
  intro K hK
  have hcc : 0 ≤ 0 := Nat.zero_le _
  have hss : 0 ≤ 0 := Nat.zero_le _
  have ka0_0 : gw_kd S a0 = 3 := (hS0 0 _ rfl).1
  have ra0_0_0 : gw_rf S a0 0 = a0 + 1 := (hS0 0 _ rfl).2.2 (0, 1) (by decide)
  have ra0_0_1 : gw_rf S a0 1 = a0 + 8 := (hS0 0 _ rfl).2.2 (1, 8) (by decide)
  have ra0_0_3 : gw_rf S a0 3 = a0 + 12 := (hS0 0 _ rfl).2.2 (3, 12) (by decide)
  have ka0_1 : gw_kd S (a0 + 1) = 4 := (hS0 1 _ rfl).1
  have ka0_12 : gw_kd S (a0 + 12) = 0 := (hS0 12 _ rfl).1
  have ka0_8 : gw_kd S (a0 + 8) = 8 := (hS0 8 _ rfl).1
  have kp1_0 : gw_kd S p1 = 3 := (hpp1 0 _ rfl).1
  have rp1_0_0 : gw_rf S p1 0 = p1 + 1 := (hpp1 0 _ rfl).2.2 (0, 1) (by decide)
  have rp1_0_1 : gw_rf S p1 1 = p1 + 8 := (hpp1 0 _ rfl).2.2 (1, 8) (by decide)
  have rp1_0_3 : gw_rf S p1 3 = p1 + 12 := (hpp1 0 _ rfl).2.2 (3, 12) (by decide)
  have kp1_1 : gw_kd S (p1 + 1) = 4 := (hpp1 1 _ rfl).1
  have kp1_12 : gw_kd S (p1 + 12) = 0 := (hpp1 12 _ rfl).1
  have kp1_8 : gw_kd S (p1 + 8) = 8 := (hpp1 8 _ rfl).1
  unfold F_X3_copyFrom at h
  refine hK _ _ _ _ _ _ _ ?_
  rw [fdX3_copyFrom_0]
  simp only [gt_nil, true_and, eq_self, gt_aload_n, gt_rfk, gw_nth, gt_get_r, gt_get_i, gt_get_z, gt_v0, gt_v1, gt_v2, gt_v3, gt_v4, gt_v5, gt_put_i, gt_putz, gt_iconst, gt_istore_n, gw_set, bkX3_copyFrom_0, ka0_0, ra0_0_0, ra0_0_1, ra0_0_3, ka0_1, ka0_12, ka0_8, kp1_0, rp1_0_0, rp1_0_1, rp1_0_3, kp1_1, kp1_12, kp1_8]
  obtain ⟨μ_2, e_3, h⟩ := gw_bnd h
  refine ⟨rfl, 0, 0, hcc, hss, ok_X4_copyFrom (gw_sub hS0 4 1 (by decide +kernel)) (gw_sub hpp1 4 1 (by decide +kernel)) e_3 ?_⟩
  simp only [gt_nil, true_and, eq_self, gt_aload_n, gt_rfk, gw_nth, gt_get_r, gt_get_i, gt_get_z, gt_v0, gt_v1, gt_v2, gt_v3, gt_v4, gt_v5, gt_put_i, gt_putz, gt_iconst, gt_istore_n, gw_set, Option.toList, List.cons_append, List.nil_append, Nat.add_zero, ka0_0, ra0_0_0, ra0_0_1, ra0_0_3, ka0_1, ka0_12, ka0_8, kp1_0, rp1_0_0, rp1_0_1, rp1_0_3, kp1_1, kp1_12, kp1_8]
  obtain ⟨μ_6, e_7, h⟩ := gw_bnd h
  refine ⟨rfl, 0, 0, hcc, hss, ok_X8_copyFrom (gw_sub hS0 8 8 (by decide +kernel)) (gw_sub hpp1 8 8 (by decide +kernel)) e_7 ?_⟩
  simp only [gt_nil, true_and, eq_self, gt_aload_n, gt_rfk, gw_nth, gt_get_r, gt_get_i, gt_get_z, gt_put_i, gt_putz, gt_v0, gt_v1, gt_v2, gt_v3, gt_v4, gt_v5, gt_iconst, gt_istore_n, gw_set, Option.toList, List.cons_append, List.nil_append, Nat.add_zero, ka0_0, ra0_0_0, ra0_0_1, ra0_0_3, ka0_1, ka0_12, ka0_8, kp1_0, rp1_0_0, rp1_0_1, rp1_0_3, kp1_1, kp1_12, kp1_8]
  obtain ⟨μ_9, hμ_9, h⟩ := gw_lt h
  try rw [← hμ_9]
  obtain ⟨μ_11, e_12, h⟩ := gw_bnd h
  refine ⟨rfl, 0, 0, hcc, hss, ok_X0_copyFrom (gw_sub hS0 0 12 (by decide +kernel)) (gw_sub hpp1 0 12 (by decide +kernel)) e_12 ?_⟩
  simp only [gt_nil, true_and, eq_self, gt_iconst, gt_istore_n, gw_set, Option.toList, List.cons_append, List.nil_append, Nat.add_zero, ka0_0, ra0_0_0, ra0_0_1, ra0_0_3, ka0_1, ka0_12, ka0_8, kp1_0, rp1_0_0, rp1_0_1, rp1_0_3, kp1_1, kp1_12, kp1_8]
  exact B_X3_copyFrom_43 hcc hss hK hS0 hpp1 h hq
def F_X3_inHand (n0 : Nat) (a0 : Nat) (μ : gw_M) : Option (Nat) := (if 0 ≤ (μ a0 5) ∧ (μ a0 5).toNatClampNeg < 3 then gw_let (a0 + 37 + 15 * (μ a0 5).toNatClampNeg) (fun (q_2 : Nat) => some q_2) else none)
theorem ok_X3_inHand {l : Launch} {x : gw_C} {d : Nat} {S : gw_S} {Q : Option Value → gw_S → gw_M → Prop} {a0 : Nat} {n0 : Nat} {μ : gw_M} {r} (hS0 : gw_sh S 3 a0) (h : F_X3_inHand n0 a0 μ = some r) (hq : (gw_sh S 1 r → Q (some (.ref r)) S μ)) : gw_ok l x (d + 1) sgX3_inHand 0 0 [.ref a0] S μ Q := by
  refine gw_ok_of stX3_inHand (lv0 := [.ref a0]) (Nat.le_of_ble_eq_true rfl) rfl rfl ?_
  intro K hK
  have hcc : 0 ≤ 0 := Nat.zero_le _
  have hss : 0 ≤ 0 := Nat.zero_le _
  have ka0_0 : gw_kd S a0 = 3 := (hS0 0 _ rfl).1
  have ra0_0_4 : gw_rf S a0 4 = a0 + 18 := (hS0 0 _ rfl).2.2 (4, 18) (by decide)
  have ka0_18 : gw_kd S (a0 + 18) = 13 := (hS0 18 _ rfl).1
  have la0_18 : gw_ln S (a0 + 18) = 3 := (hS0 18 _ rfl).2.1
  unfold F_X3_inHand at h
  refine hK _ _ _ _ _ _ _ ?_
  rw [fdX3_inHand_0]
  simp only [gt_nil, true_and, eq_self, gt_aload_n, gt_rfk, gw_nth, gt_get_r, gt_get_i, gt_get_z, gt_aaload, true_or, or_true, gt_aret, bkX3_inHand_0, ka0_0, ra0_0_4, ka0_18, la0_18]
  obtain ⟨c_1, h⟩ := gw_ife h
  refine ⟨c_1, ?_⟩
  obtain ⟨q_2, hq_2, h⟩ := gw_lt h
  obtain ⟨hsq_2, hrq_2⟩ : gw_sh S 1 (a0 + 37 + 15 * (μ a0 5).toNatClampNeg) ∧ gw_rf S (a0 + 18) (μ a0 5).toNatClampNeg = a0 + 37 + 15 * (μ a0 5).toNatClampNeg := gw_sub_in hS0 c_1.2
  rw [← hq_2] at hsq_2 hrq_2
  simp only [gt_nil, true_and, eq_self, gt_aret, hrq_2, ka0_0, ra0_0_4, ka0_18, la0_18]
  obtain rfl := gw_inj1 h
  exact ⟨hcc, hss, hq hsq_2⟩
def F_X3_guest (n0 : Nat) (a0 : Nat) (v1 : Int32) (μ : gw_M) : Option (Nat) := (if ¬ v1 = 1 then (if 0 ≤ (μ a0 5) ∧ (μ a0 5).toNatClampNeg < 3 then gw_let (a0 + 37 + 15 * (μ a0 5).toNatClampNeg) (fun (q_3 : Nat) => some (q_3 + 1)) else none) else some (a0 + 12))
theorem ok_X3_guest {l : Launch} {x : gw_C} {d : Nat} {S : gw_S} {Q : Option Value → gw_S → gw_M → Prop} {v1 : Int32} {a0 : Nat} {n0 : Nat} {μ : gw_M} {r} (hS0 : gw_sh S 3 a0) (h : F_X3_guest n0 a0 v1 μ = some r) (hq : (gw_sh S 0 r → Q (some (.ref r)) S μ)) : gw_ok l x (d + 1) sgX3_guest 0 0 [.ref a0, .int v1] S μ Q := by
  refine gw_ok_of stX3_guest (lv0 := [.ref a0, .int v1]) (Nat.le_of_ble_eq_true rfl) rfl rfl ?_
  intro K hK
  have hcc : 0 ≤ 0 := Nat.zero_le _
  have hss : 0 ≤ 0 := Nat.zero_le _
  have ka0_0 : gw_kd S a0 = 3 := (hS0 0 _ rfl).1
  have ra0_0_3 : gw_rf S a0 3 = a0 + 12 := (hS0 0 _ rfl).2.2 (3, 12) (by decide)
  have ra0_0_4 : gw_rf S a0 4 = a0 + 18 := (hS0 0 _ rfl).2.2 (4, 18) (by decide)
  have ka0_18 : gw_kd S (a0 + 18) = 13 := (hS0 18 _ rfl).1
  have la0_18 : gw_ln S (a0 + 18) = 3 := (hS0 18 _ rfl).2.1
  unfold F_X3_guest at h
  refine hK _ _ _ _ _ _ _ ?_
  rw [fdX3_guest_0]
  simp only [gt_nil, true_and, eq_self, gt_iload_n, gt_ink, gw_nth, gt_iconst, gt_icmp, gt_aload_n, gt_rfk, gt_get_r, gt_get_i, gt_get_z, gt_goto, bkX3_guest_0, ka0_0, ra0_0_3, ra0_0_4, ka0_18, la0_18]
  refine ⟨fun c_1 => ?_, fun c_1 => ?_⟩
  · replace h := gw_ifp2 (gw_c2_ne _ _) h c_1
    refine hK _ _ _ _ _ _ _ ?_
    rw [fdX3_guest_12]
    simp only [gt_nil, true_and, eq_self, gt_aload_n, gt_rfk, gw_nth, gt_get_r, gt_get_i, gt_get_z, gt_aaload, true_or, or_true, bkX3_guest_12, ka0_0, ra0_0_3, ra0_0_4, ka0_18, la0_18]
    obtain ⟨c_2, h⟩ := gw_ife h
    refine ⟨c_2, ?_⟩
    obtain ⟨q_3, hq_3, h⟩ := gw_lt h
    obtain ⟨hsq_3, hrq_3⟩ : gw_sh S 1 (a0 + 37 + 15 * (μ a0 5).toNatClampNeg) ∧ gw_rf S (a0 + 18) (μ a0 5).toNatClampNeg = a0 + 37 + 15 * (μ a0 5).toNatClampNeg := gw_sub_in hS0 c_2.2
    rw [← hq_3] at hsq_3 hrq_3
    have kq_3_0 : gw_kd S q_3 = 1 := (hsq_3 0 _ rfl).1
    have rq_3_0_0 : gw_rf S q_3 0 = q_3 + 1 := (hsq_3 0 _ rfl).2.2 (0, 1) (by decide)
    simp only [gt_nil, true_and, eq_self, gt_get_r, gt_get_i, gt_get_z, hrq_3, ka0_0, ra0_0_3, ra0_0_4, ka0_18, la0_18, kq_3_0, rq_3_0_0]
    refine hK _ _ _ _ _ _ _ ?_
    rw [fdX3_guest_24]
    simp only [gt_nil, true_and, eq_self, gt_aret, bkX3_guest_24, ka0_0, ra0_0_3, ra0_0_4, ka0_18, la0_18, kq_3_0, rq_3_0_0]
    obtain rfl := gw_inj1 h
    exact ⟨hcc, hss, hq (gw_sub hsq_3 0 1 (by decide +kernel))⟩
  · replace h := gw_ifn2 (gw_c2_ne _ _) h c_1
    refine hK _ _ _ _ _ _ _ ?_
    rw [fdX3_guest_24]
    simp only [gt_nil, true_and, eq_self, gt_aret, bkX3_guest_24, ka0_0, ra0_0_3, ra0_0_4, ka0_18, la0_18]
    obtain rfl := gw_inj1 h
    exact ⟨hcc, hss, hq (gw_sub hS0 0 12 (by decide +kernel))⟩
def F_X3_table (n0 : Nat) (a0 : Nat) (v1 : Int32) (μ : gw_M) : Option (Nat) := (if v1 = (0 : Int32) then (if 0 ≤ (μ a0 5) ∧ (μ a0 5).toNatClampNeg < 3 then gw_let (a0 + 37 + 15 * (μ a0 5).toNatClampNeg) (fun (q_3 : Nat) => some (q_3 + 7)) else none) else (if v1 = ((0 : Int32) + 1) then (if 0 ≤ (μ a0 5) ∧ (μ a0 5).toNatClampNeg < 3 then gw_let (a0 + 37 + 15 * (μ a0 5).toNatClampNeg) (fun (q_6 : Nat) => some (q_6 + 11)) else none) else (if v1 = (((0 : Int32) + 1) + 1) then some (a0 + 2) else some (a0 + 8))))
theorem ok_X3_table {l : Launch} {x : gw_C} {d : Nat} {S : gw_S} {Q : Option Value → gw_S → gw_M → Prop} {v1 : Int32} {a0 : Nat} {n0 : Nat} {μ : gw_M} {r} (hS0 : gw_sh S 3 a0) (h : F_X3_table n0 a0 v1 μ = some r) (hq : (gw_sh S 8 r → Q (some (.ref r)) S μ)) : gw_ok l x (d + 1) sgX3_table 0 0 [.ref a0, .int v1] S μ Q := by
  refine gw_ok_of stX3_table (lv0 := [.ref a0, .int v1]) (Nat.le_of_ble_eq_true rfl) rfl rfl ?_
  intro K hK
  have hcc : 0 ≤ 0 := Nat.zero_le _
  have hss : 0 ≤ 0 := Nat.zero_le _
  have ka0_0 : gw_kd S a0 = 3 := (hS0 0 _ rfl).1
  have ra0_0_0 : gw_rf S a0 0 = a0 + 1 := (hS0 0 _ rfl).2.2 (0, 1) (by decide)
  have ra0_0_1 : gw_rf S a0 1 = a0 + 8 := (hS0 0 _ rfl).2.2 (1, 8) (by decide)
  have ra0_0_4 : gw_rf S a0 4 = a0 + 18 := (hS0 0 _ rfl).2.2 (4, 18) (by decide)
  have ka0_1 : gw_kd S (a0 + 1) = 4 := (hS0 1 _ rfl).1
  have ra0_1_0 : gw_rf S (a0 + 1) 0 = a0 + 2 := (hS0 1 _ rfl).2.2 (0, 2) (by decide)
  have ka0_18 : gw_kd S (a0 + 18) = 13 := (hS0 18 _ rfl).1
  have la0_18 : gw_ln S (a0 + 18) = 3 := (hS0 18 _ rfl).2.1
  unfold F_X3_table at h
  refine hK _ _ _ _ _ _ _ ?_
  rw [fdX3_table_0]
  simp only [gt_nil, true_and, eq_self, gt_iload_n, gt_ink, gw_nth, gt_tsw, gw_sw, bkX3_table_0, ka0_0, ra0_0_0, ra0_0_1, ra0_0_4, ka0_1, ra0_1_0, ka0_18, la0_18]
  refine ⟨fun c_1 => ?_, fun c_1 => ?_⟩
  · replace h := gw_ifp h c_1
    refine hK _ _ _ _ _ _ _ ?_
    rw [fdX3_table_28]
    simp only [gt_nil, true_and, eq_self, gt_aload_n, gt_rfk, gw_nth, gt_get_r, gt_get_i, gt_get_z, gt_aaload, true_or, or_true, gt_aret, bkX3_table_28, ka0_0, ra0_0_0, ra0_0_1, ra0_0_4, ka0_1, ra0_1_0, ka0_18, la0_18]
    obtain ⟨c_2, h⟩ := gw_ife h
    refine ⟨c_2, ?_⟩
    obtain ⟨q_3, hq_3, h⟩ := gw_lt h
    obtain ⟨hsq_3, hrq_3⟩ : gw_sh S 1 (a0 + 37 + 15 * (μ a0 5).toNatClampNeg) ∧ gw_rf S (a0 + 18) (μ a0 5).toNatClampNeg = a0 + 37 + 15 * (μ a0 5).toNatClampNeg := gw_sub_in hS0 c_2.2
    rw [← hq_3] at hsq_3 hrq_3
    have kq_3_0 : gw_kd S q_3 = 1 := (hsq_3 0 _ rfl).1
    have rq_3_0_1 : gw_rf S q_3 1 = q_3 + 7 := (hsq_3 0 _ rfl).2.2 (1, 7) (by decide)
    simp only [gt_nil, true_and, eq_self, gt_get_r, gt_get_i, gt_get_z, gt_aret, hrq_3, ka0_0, ra0_0_0, ra0_0_1, ra0_0_4, ka0_1, ra0_1_0, ka0_18, la0_18, kq_3_0, rq_3_0_1]
    obtain rfl := gw_inj1 h
    exact ⟨hcc, hss, hq (gw_sub hsq_3 8 7 (by decide +kernel))⟩
  replace h := gw_ifn h c_1
  refine ⟨fun c_4 => ?_, fun c_4 => ?_⟩
  · replace h := gw_ifp h c_4
    refine hK _ _ _ _ _ _ _ ?_
    rw [fdX3_table_41]
    simp only [gt_nil, true_and, eq_self, gt_aload_n, gt_rfk, gw_nth, gt_get_r, gt_get_i, gt_get_z, gt_aaload, true_or, or_true, gt_aret, bkX3_table_41, ka0_0, ra0_0_0, ra0_0_1, ra0_0_4, ka0_1, ra0_1_0, ka0_18, la0_18]
    obtain ⟨c_5, h⟩ := gw_ife h
    refine ⟨c_5, ?_⟩
    obtain ⟨q_6, hq_6, h⟩ := gw_lt h
    obtain ⟨hsq_6, hrq_6⟩ : gw_sh S 1 (a0 + 37 + 15 * (μ a0 5).toNatClampNeg) ∧ gw_rf S (a0 + 18) (μ a0 5).toNatClampNeg = a0 + 37 + 15 * (μ a0 5).toNatClampNeg := gw_sub_in hS0 c_5.2
    rw [← hq_6] at hsq_6 hrq_6
    have kq_6_0 : gw_kd S q_6 = 1 := (hsq_6 0 _ rfl).1
    have rq_6_0_2 : gw_rf S q_6 2 = q_6 + 11 := (hsq_6 0 _ rfl).2.2 (2, 11) (by decide)
    simp only [gt_nil, true_and, eq_self, gt_get_r, gt_get_i, gt_get_z, gt_aret, hrq_6, ka0_0, ra0_0_0, ra0_0_1, ra0_0_4, ka0_1, ra0_1_0, ka0_18, la0_18, kq_6_0, rq_6_0_2]
    obtain rfl := gw_inj1 h
    exact ⟨hcc, hss, hq (gw_sub hsq_6 8 11 (by decide +kernel))⟩
  replace h := gw_ifn h c_4
  refine ⟨fun c_7 => ?_, fun c_7 => ?_⟩
  · replace h := gw_ifp h c_7
    refine hK _ _ _ _ _ _ _ ?_
    rw [fdX3_table_54]
    simp only [gt_nil, true_and, eq_self, gt_aload_n, gt_rfk, gw_nth, gt_get_r, gt_get_i, gt_get_z, gt_aret, bkX3_table_54, ka0_0, ra0_0_0, ra0_0_1, ra0_0_4, ka0_1, ra0_1_0, ka0_18, la0_18]
    obtain rfl := gw_inj1 h
    exact ⟨hcc, hss, hq (gw_sub hS0 8 2 (by decide +kernel))⟩
  replace h := gw_ifn h c_7
  refine hK _ _ _ _ _ _ _ ?_
  rw [fdX3_table_62]
  simp only [gt_nil, true_and, eq_self, gt_aload_n, gt_rfk, gw_nth, gt_get_r, gt_get_i, gt_get_z, gt_aret, bkX3_table_62, ka0_0, ra0_0_0, ra0_0_1, ra0_0_4, ka0_1, ra0_1_0, ka0_18, la0_18]
  obtain rfl := gw_inj1 h
  exact ⟨hcc, hss, hq (gw_sub hS0 8 8 (by decide +kernel))⟩
def F_J6_bitCount_0f7a4 (n0 : Nat) (v0 : Int32) (μ : gw_M) : Option (Int32) := gw_let ((v0 - ((v0.toUInt32 >>> ((1 : Int32).toUInt32 &&& Int32.toUInt32 31)).toInt32 &&& (1431655765 : Int32)))) (fun (w_1 : Int32) => gw_let (((w_1 &&& (858993459 : Int32)) + ((w_1.toUInt32 >>> ((2 : Int32).toUInt32 &&& Int32.toUInt32 31)).toInt32 &&& (858993459 : Int32)))) (fun (w_2 : Int32) => gw_let (((w_2 + (w_2.toUInt32 >>> ((4 : Int32).toUInt32 &&& Int32.toUInt32 31)).toInt32) &&& (252645135 : Int32))) (fun (w_3 : Int32) => gw_let ((w_3 + (w_3.toUInt32 >>> ((8 : Int32).toUInt32 &&& Int32.toUInt32 31)).toInt32)) (fun (w_4 : Int32) => gw_let ((w_4 + (w_4.toUInt32 >>> ((16 : Int32).toUInt32 &&& Int32.toUInt32 31)).toInt32)) (fun (w_5 : Int32) => some (w_5 &&& (63 : Int32)))))))
theorem ok_J6_bitCount_0f7a4 {l : Launch} {x : gw_C} {d : Nat} {S : gw_S} {Q : Option Value → gw_S → gw_M → Prop} {v0 : Int32} {n0 : Nat} {μ : gw_M} {r} (h : F_J6_bitCount_0f7a4 n0 v0 μ = some r) (hq : Q (some (.int r)) S μ) : gw_ok l x (d + 1) sgJ6_bitCount_0f7a4 0 0 [.int v0] S μ Q := by
  refine gw_ok_of stJ6_bitCount_0f7a4 (lv0 := [.int v0]) (Nat.le_of_ble_eq_true rfl) rfl rfl ?_
  intro K hK
  have hcc : 0 ≤ 0 := Nat.zero_le _
  have hss : 0 ≤ 0 := Nat.zero_le _
  unfold F_J6_bitCount_0f7a4 at h
  refine hK _ _ _ _ _ _ _ ?_
  rw [fdJ6_bitCount_0f7a4_0]
  simp only [gt_nil, true_and, eq_self, gt_iload_n, gt_ink, gw_nth, gt_iconst, gt_iushr, gt_ldc_w, gt_iand, gt_isub, gt_istore_n, gw_set, gt_iadd, gt_bipush, gt_iret, gt_retz, bkJ6_bitCount_0f7a4_0]
  obtain ⟨w_1, hw_1, h⟩ := gw_lt h
  try rw [← hw_1]
  obtain ⟨w_2, hw_2, h⟩ := gw_lt h
  try rw [← hw_2]
  obtain ⟨w_3, hw_3, h⟩ := gw_lt h
  try rw [← hw_3]
  obtain ⟨w_4, hw_4, h⟩ := gw_lt h
  try rw [← hw_4]
  obtain ⟨w_5, hw_5, h⟩ := gw_lt h
  try rw [← hw_5]
  obtain rfl := gw_inj1 h
  exact ⟨hcc, hss, hq⟩
def F_X4_framesLedTo_37 (rec4 : Int32 → Int32 → gw_M → Option (Int32)) (n0 : Nat) (a0 : Nat) (v1 : Int32) (v2 : Int32) (μ : gw_M) : Option (Int32) := gw_let (v2 + 1) (fun (w_1 : Int32) => rec4 v1 w_1 μ)
def F_X4_framesLedTo_4 (n0 : Nat) (a0 : Nat) : Nat → Int32 → Int32 → gw_M → Option (Int32)
  | 0, _, _, _ => none
  | n + 1, v1, v2, μ => (if 16 ≤ v2 then some v1 else (if 0 ≤ v2 ∧ v2.toNatClampNeg < 16 then (if (μ (a0 + 2) v2.toNatClampNeg) = (-1) then F_X4_framesLedTo_37 (F_X4_framesLedTo_4 n0 a0 n) n0 a0 v1 v2 μ else (if 0 ≤ v2 ∧ v2.toNatClampNeg < 16 then gw_let ((v1 ||| ((1 : Int32) <<< ((μ (a0 + 2) v2.toNatClampNeg) &&& 31)))) (fun (w_5 : Int32) => F_X4_framesLedTo_37 (F_X4_framesLedTo_4 n0 a0 n) n0 a0 w_5 v2 μ) else none)) else none))
def F_X4_framesLedTo (n0 : Nat) (a0 : Nat) (μ : gw_M) : Option (Int32) := F_X4_framesLedTo_4 n0 a0 n0 0 0 μ
theorem B_X4_framesLedTo_37 {l : Launch} {x : gw_C} {d : Nat} {S : gw_S} {Q : Option Value → gw_S → gw_M → Prop} {K : Nat → gw_Kt} {mc ms cc ss : Nat} (hcc : cc ≤ mc) (hss : ss ≤ ms) (hK : gw_cl l x (d + 0) mc ms bsX4_framesLedTo Q K) {a0 : Nat} (hS0 : gw_sh S 4 a0) {rec4 : Int32 → Int32 → gw_M → Option (Int32)} (hrec4 : ∀ {v1 v2} {μ : gw_M} {r}, rec4 v1 v2 μ = some r → Q (some (.int r)) S μ → K 4 [.ref a0, .int v1, .int v2] [] S μ cc ss) {n0 : Nat} {v1 v2} {μ : gw_M} {r} (h : F_X4_framesLedTo_37 rec4 n0 a0 v1 v2 μ = some r) (hq : Q (some (.int r)) S μ) : K 37 [.ref a0, .int v1, .int v2] [] S μ cc ss := by
  unfold F_X4_framesLedTo_37 at h
  refine hK _ _ _ _ _ _ _ ?_
  rw [fdX4_framesLedTo_37]
  simp only [gt_nil, true_and, eq_self, gt_iinc, gt_ink, gw_nth, gw_set, gt_goto, bkX4_framesLedTo_37]
  obtain ⟨w_1, hw_1, h⟩ := gw_lt h
  try rw [← hw_1]
  exact hrec4 h hq
theorem B_X4_framesLedTo_4 {l : Launch} {x : gw_C} {d : Nat} {S : gw_S} {Q : Option Value → gw_S → gw_M → Prop} {K : Nat → gw_Kt} {mc ms cc ss : Nat} (hcc : cc ≤ mc) (hss : ss ≤ ms) (hK : gw_cl l x (d + 0) mc ms bsX4_framesLedTo Q K) {a0 : Nat} (hS0 : gw_sh S 4 a0) {n0 : Nat} : ∀ {n : Nat} {v1 v2} {μ : gw_M} {r}, F_X4_framesLedTo_4 n0 a0 n v1 v2 μ = some r → Q (some (.int r)) S μ → K 4 [.ref a0, .int v1, .int v2] [] S μ cc ss := by
  have ka0_0 : gw_kd S a0 = 4 := (hS0 0 _ rfl).1
  have ra0_0_0 : gw_rf S a0 0 = a0 + 1 := (hS0 0 _ rfl).2.2 (0, 1) (by decide)
  have ka0_1 : gw_kd S (a0 + 1) = 8 := (hS0 1 _ rfl).1
  have ra0_1_0 : gw_rf S (a0 + 1) 0 = a0 + 2 := (hS0 1 _ rfl).2.2 (0, 2) (by decide)
  have ka0_2 : gw_kd S (a0 + 2) = 12 := (hS0 2 _ rfl).1
  have la0_2 : gw_ln S (a0 + 2) = 16 := (hS0 2 _ rfl).2.1
  intro n
  induction n with
  | zero => intro v1 v2 μ r h hq; simp [F_X4_framesLedTo_4] at h
  | succ n ih =>
    intro v1 v2 μ r h hq
    simp only [F_X4_framesLedTo_4] at h
    refine hK _ _ _ _ _ _ _ ?_
    rw [fdX4_framesLedTo_4]
    simp only [gt_nil, true_and, eq_self, gt_iload_n, gt_ink, gw_nth, gt_bipush, gt_icmp, gt_aload_n, gt_rfk, gt_get_r, gt_get_i, gt_get_z, gt_iaload, gt_iconst, gt_ishl, gt_ior, gt_istore_n, gw_set, bkX4_framesLedTo_4, ka0_0, ra0_0_0, ka0_1, ra0_1_0, ka0_2, la0_2]
    refine ⟨fun c_1 => ?_, fun c_1 => ?_⟩
    · replace h := gw_ifp2 (gw_c2_ge _ _) h c_1
      refine hK _ _ _ _ _ _ _ ?_
      rw [fdX4_framesLedTo_43]
      simp only [gt_nil, true_and, eq_self, gt_iload_n, gt_ink, gw_nth, gt_iret, gt_retz, bkX4_framesLedTo_43, ka0_0, ra0_0_0, ka0_1, ra0_1_0, ka0_2, la0_2]
      obtain rfl := gw_inj1 h
      exact ⟨hcc, hss, hq⟩
    · replace h := gw_ifn2 (gw_c2_ge _ _) h c_1
      obtain ⟨c_2, h⟩ := gw_ife h
      refine ⟨c_2, ?_⟩
      refine ⟨fun c_3 => ?_, fun c_3 => ?_⟩
      · replace h := gw_ifp2 (gw_c2_eq _ _) h c_3
        exact B_X4_framesLedTo_37 hcc hss hK hS0 ih h hq
      · replace h := gw_ifn2 (gw_c2_eq _ _) h c_3
        obtain ⟨c_4, h⟩ := gw_ife h
        refine ⟨c_4, ?_⟩
        obtain ⟨w_5, hw_5, h⟩ := gw_lt h
        try rw [← hw_5]
        exact B_X4_framesLedTo_37 hcc hss hK hS0 ih h hq
theorem ok_X4_framesLedTo {l : Launch} {x : gw_C} {d : Nat} {S : gw_S} {Q : Option Value → gw_S → gw_M → Prop} {a0 : Nat} {n0 : Nat} {μ : gw_M} {r} (hS0 : gw_sh S 4 a0) (h : F_X4_framesLedTo n0 a0 μ = some r) (hq : Q (some (.int r)) S μ) : gw_ok l x (d + 1) sgX4_framesLedTo 0 0 [.ref a0] S μ Q := by
  refine gw_ok_of stX4_framesLedTo (lv0 := [.ref a0, .retAddr 0, .retAddr 0]) (Nat.le_of_ble_eq_true rfl) rfl rfl ?_
  intro K hK
  have hcc : 0 ≤ 0 := Nat.zero_le _
  have hss : 0 ≤ 0 := Nat.zero_le _
  unfold F_X4_framesLedTo at h
  refine hK _ _ _ _ _ _ _ ?_
  rw [fdX4_framesLedTo_0]
  simp only [gt_nil, true_and, eq_self, gt_iconst, gt_istore_n, gw_set, bkX4_framesLedTo_0]
  exact B_X4_framesLedTo_4 hcc hss hK hS0 h hq
def F_X4_framesFree (n0 : Nat) (a0 : Nat) (μ : gw_M) : Option (Int32) := (F_X4_framesLedTo n0 a0 μ).bind (fun (r_1 : Int32) => (F_J6_bitCount_0f7a4 n0 r_1 μ).bind (fun (r_5 : Int32) => some ((10 : Int32) - r_5)))
theorem ok_X4_framesFree {l : Launch} {x : gw_C} {d : Nat} {S : gw_S} {Q : Option Value → gw_S → gw_M → Prop} {a0 : Nat} {n0 : Nat} {μ : gw_M} {r} (hS0 : gw_sh S 4 a0) (h : F_X4_framesFree n0 a0 μ = some r) (hq : Q (some (.int r)) S μ) : gw_ok l x (d + 2) sgX4_framesFree 0 0 [.ref a0] S μ Q := by
  refine gw_ok_of stX4_framesFree (lv0 := [.ref a0]) (Nat.le_of_ble_eq_true rfl) rfl rfl ?_
  intro K hK
  have hcc : 0 ≤ 0 := Nat.zero_le _
  have hss : 0 ≤ 0 := Nat.zero_le _
  have ka0_0 : gw_kd S a0 = 4 := (hS0 0 _ rfl).1
  unfold F_X4_framesFree at h
  refine hK _ _ _ _ _ _ _ ?_
  rw [fdX4_framesFree_0]
  simp only [gt_nil, true_and, eq_self, gt_bipush, gt_aload_n, gt_rfk, gw_nth, gt_v0, gt_v1, gt_v2, gt_v3, gt_v4, gt_v5, gt_s1_0, gt_s2_0, gt_s3_0, gt_s4_0, gt_s1_1, gt_s2_1, gt_s3_1, gt_s4_1, gt_acpy, gt_isub, gt_iret, gt_retz, bkX4_framesFree_0, ka0_0]
  obtain ⟨r_1, e_3, h⟩ := gw_bnd h
  refine ⟨rfl, 0, 0, hcc, hss, ok_X4_framesLedTo hS0 e_3 ?_⟩
  simp only [gt_nil, true_and, eq_self, gt_s1_0, gt_s2_0, gt_s3_0, gt_s4_0, gt_s1_1, gt_s2_1, gt_s3_1, gt_s4_1, gt_acpy, gt_isub, gt_iret, gt_retz, Option.toList, List.cons_append, List.nil_append, Nat.add_zero, ka0_0]
  obtain ⟨r_5, e_7, h⟩ := gw_bnd h
  refine ⟨rfl, 0, 0, hcc, hss, ok_J6_bitCount_0f7a4 e_7 ?_⟩
  simp only [gt_nil, true_and, eq_self, gt_isub, gt_iret, gt_retz, Option.toList, List.cons_append, List.nil_append, Nat.add_zero, ka0_0]
  obtain rfl := gw_inj1 h
  exact ⟨hcc, hss, hq⟩
def F_X8_size_23 (rec4 : Int32 → Int32 → gw_M → Option (Int32)) (n0 : Nat) (a0 : Nat) (v1 : Int32) (v2 : Int32) (μ : gw_M) : Option (Int32) := gw_let (v2 + 1) (fun (w_1 : Int32) => rec4 v1 w_1 μ)
def F_X8_size_4 (n0 : Nat) (a0 : Nat) : Nat → Int32 → Int32 → gw_M → Option (Int32)
  | 0, _, _, _ => none
  | n + 1, v1, v2, μ => (if 16 ≤ v2 then some v1 else (if 0 ≤ v2 ∧ v2.toNatClampNeg < 16 then (if (μ (a0 + 1) v2.toNatClampNeg) = (-1) then F_X8_size_23 (F_X8_size_4 n0 a0 n) n0 a0 v1 v2 μ else gw_let (v1 + 1) (fun (w_4 : Int32) => F_X8_size_23 (F_X8_size_4 n0 a0 n) n0 a0 w_4 v2 μ)) else none))
def F_X8_size (n0 : Nat) (a0 : Nat) (μ : gw_M) : Option (Int32) := F_X8_size_4 n0 a0 n0 0 0 μ
theorem B_X8_size_23 {l : Launch} {x : gw_C} {d : Nat} {S : gw_S} {Q : Option Value → gw_S → gw_M → Prop} {K : Nat → gw_Kt} {mc ms cc ss : Nat} (hcc : cc ≤ mc) (hss : ss ≤ ms) (hK : gw_cl l x (d + 0) mc ms bsX8_size Q K) {a0 : Nat} (hS0 : gw_sh S 8 a0) {rec4 : Int32 → Int32 → gw_M → Option (Int32)} (hrec4 : ∀ {v1 v2} {μ : gw_M} {r}, rec4 v1 v2 μ = some r → Q (some (.int r)) S μ → K 4 [.ref a0, .int v1, .int v2] [] S μ cc ss) {n0 : Nat} {v1 v2} {μ : gw_M} {r} (h : F_X8_size_23 rec4 n0 a0 v1 v2 μ = some r) (hq : Q (some (.int r)) S μ) : K 23 [.ref a0, .int v1, .int v2] [] S μ cc ss := by
  unfold F_X8_size_23 at h
  refine hK _ _ _ _ _ _ _ ?_
  rw [fdX8_size_23]
  simp only [gt_nil, true_and, eq_self, gt_iinc, gt_ink, gw_nth, gw_set, gt_goto, bkX8_size_23]
  obtain ⟨w_1, hw_1, h⟩ := gw_lt h
  try rw [← hw_1]
  exact hrec4 h hq
theorem B_X8_size_4 {l : Launch} {x : gw_C} {d : Nat} {S : gw_S} {Q : Option Value → gw_S → gw_M → Prop} {K : Nat → gw_Kt} {mc ms cc ss : Nat} (hcc : cc ≤ mc) (hss : ss ≤ ms) (hK : gw_cl l x (d + 0) mc ms bsX8_size Q K) {a0 : Nat} (hS0 : gw_sh S 8 a0) {n0 : Nat} : ∀ {n : Nat} {v1 v2} {μ : gw_M} {r}, F_X8_size_4 n0 a0 n v1 v2 μ = some r → Q (some (.int r)) S μ → K 4 [.ref a0, .int v1, .int v2] [] S μ cc ss := by
  have ka0_0 : gw_kd S a0 = 8 := (hS0 0 _ rfl).1
  have ra0_0_0 : gw_rf S a0 0 = a0 + 1 := (hS0 0 _ rfl).2.2 (0, 1) (by decide)
  have ka0_1 : gw_kd S (a0 + 1) = 12 := (hS0 1 _ rfl).1
  have la0_1 : gw_ln S (a0 + 1) = 16 := (hS0 1 _ rfl).2.1
  intro n
  induction n with
  | zero => intro v1 v2 μ r h hq; simp [F_X8_size_4] at h
  | succ n ih =>
    intro v1 v2 μ r h hq
    simp only [F_X8_size_4] at h
    refine hK _ _ _ _ _ _ _ ?_
    rw [fdX8_size_4]
    simp only [gt_nil, true_and, eq_self, gt_iload_n, gt_ink, gw_nth, gt_bipush, gt_icmp, gt_aload_n, gt_rfk, gt_get_r, gt_get_i, gt_get_z, gt_iaload, gt_iconst, gt_iinc, gw_set, bkX8_size_4, ka0_0, ra0_0_0, ka0_1, la0_1]
    refine ⟨fun c_1 => ?_, fun c_1 => ?_⟩
    · replace h := gw_ifp2 (gw_c2_ge _ _) h c_1
      refine hK _ _ _ _ _ _ _ ?_
      rw [fdX8_size_29]
      simp only [gt_nil, true_and, eq_self, gt_iload_n, gt_ink, gw_nth, gt_iret, gt_retz, bkX8_size_29, ka0_0, ra0_0_0, ka0_1, la0_1]
      obtain rfl := gw_inj1 h
      exact ⟨hcc, hss, hq⟩
    · replace h := gw_ifn2 (gw_c2_ge _ _) h c_1
      obtain ⟨c_2, h⟩ := gw_ife h
      refine ⟨c_2, ?_⟩
      refine ⟨fun c_3 => ?_, fun c_3 => ?_⟩
      · replace h := gw_ifp2 (gw_c2_eq _ _) h c_3
        exact B_X8_size_23 hcc hss hK hS0 ih h hq
      · replace h := gw_ifn2 (gw_c2_eq _ _) h c_3
        obtain ⟨w_4, hw_4, h⟩ := gw_lt h
        try rw [← hw_4]
        exact B_X8_size_23 hcc hss hK hS0 ih h hq
theorem ok_X8_size {l : Launch} {x : gw_C} {d : Nat} {S : gw_S} {Q : Option Value → gw_S → gw_M → Prop} {a0 : Nat} {n0 : Nat} {μ : gw_M} {r} (hS0 : gw_sh S 8 a0) (h : F_X8_size n0 a0 μ = some r) (hq : Q (some (.int r)) S μ) : gw_ok l x (d + 1) sgX8_size 0 0 [.ref a0] S μ Q := by
  refine gw_ok_of stX8_size (lv0 := [.ref a0, .retAddr 0, .retAddr 0]) (Nat.le_of_ble_eq_true rfl) rfl rfl ?_
  intro K hK
  have hcc : 0 ≤ 0 := Nat.zero_le _
  have hss : 0 ≤ 0 := Nat.zero_le _
  unfold F_X8_size at h
  refine hK _ _ _ _ _ _ _ ?_
  rw [fdX8_size_0]
  simp only [gt_nil, true_and, eq_self, gt_iconst, gt_istore_n, gw_set, bkX8_size_0]
  exact B_X8_size_4 hcc hss hK hS0 h hq
def F_X3_figure (n0 : Nat) (a0 : Nat) (v1 : Int32) (μ : gw_M) : Option (Int32) := (if v1 = (0 : Int32) then some (μ a0 6) else (if v1 = ((0 : Int32) + 1) then some (μ a0 7) else (if v1 = (((0 : Int32) + 1) + 1) then some (μ a0 2) else (if v1 = ((((0 : Int32) + 1) + 1) + 1) then (F_X8_size n0 (a0 + 8) μ).bind (fun (r_5 : Int32) => some r_5) else (if v1 = (((((0 : Int32) + 1) + 1) + 1) + 1) then (F_X4_framesFree n0 (a0 + 1) μ).bind (fun (r_10 : Int32) => some r_10) else (if v1 = ((((((0 : Int32) + 1) + 1) + 1) + 1) + 1) then some (μ (a0 + 30) 0) else (if v1 = (((((((0 : Int32) + 1) + 1) + 1) + 1) + 1) + 1) then some (μ (a0 + 30) 1) else (if v1 = ((((((((0 : Int32) + 1) + 1) + 1) + 1) + 1) + 1) + 1) then some (μ (a0 + 25) 9) else (if v1 = (((((((((0 : Int32) + 1) + 1) + 1) + 1) + 1) + 1) + 1) + 1) then some (μ (a0 + 1) 5) else (if v1 = ((((((((((0 : Int32) + 1) + 1) + 1) + 1) + 1) + 1) + 1) + 1) + 1) then some (μ (a0 + 34) 0) else (if v1 = (((((((((((0 : Int32) + 1) + 1) + 1) + 1) + 1) + 1) + 1) + 1) + 1) + 1) then some (μ (a0 + 34) 1) else (if v1 = ((((((((((((0 : Int32) + 1) + 1) + 1) + 1) + 1) + 1) + 1) + 1) + 1) + 1) + 1) then some (μ (a0 + 13) 4) else (if v1 = (((((((((((((0 : Int32) + 1) + 1) + 1) + 1) + 1) + 1) + 1) + 1) + 1) + 1) + 1) + 1) then (if 0 ≤ (μ a0 5) ∧ (μ a0 5).toNatClampNeg < 3 then gw_let (a0 + 37 + 15 * (μ a0 5).toNatClampNeg) (fun (q_23 : Nat) => some (μ (q_23 + 2) 4)) else none) else (if v1 = ((((((((((((((0 : Int32) + 1) + 1) + 1) + 1) + 1) + 1) + 1) + 1) + 1) + 1) + 1) + 1) + 1) then some (μ a0 10) else (if v1 = (((((((((((((((0 : Int32) + 1) + 1) + 1) + 1) + 1) + 1) + 1) + 1) + 1) + 1) + 1) + 1) + 1) + 1) then some (μ a0 11) else (if v1 = ((((((((((((((((0 : Int32) + 1) + 1) + 1) + 1) + 1) + 1) + 1) + 1) + 1) + 1) + 1) + 1) + 1) + 1) + 1) then some (μ (a0 + 25) 5) else (if v1 = (((((((((((((((((0 : Int32) + 1) + 1) + 1) + 1) + 1) + 1) + 1) + 1) + 1) + 1) + 1) + 1) + 1) + 1) + 1) + 1) then some (μ (a0 + 25) 6) else (if v1 = ((((((((((((((((((0 : Int32) + 1) + 1) + 1) + 1) + 1) + 1) + 1) + 1) + 1) + 1) + 1) + 1) + 1) + 1) + 1) + 1) + 1) then some (μ a0 5) else some (-1)))))))))))))))))))
theorem ok_X3_figure {l : Launch} {x : gw_C} {d : Nat} {S : gw_S} {Q : Option Value → gw_S → gw_M → Prop} {v1 : Int32} {a0 : Nat} {n0 : Nat} {μ : gw_M} {r} (hS0 : gw_sh S 3 a0) (h : F_X3_figure n0 a0 v1 μ = some r) (hq : Q (some (.int r)) S μ) : gw_ok l x (d + 3) sgX3_figure 0 0 [.ref a0, .int v1] S μ Q := by
  refine gw_ok_of stX3_figure (lv0 := [.ref a0, .int v1]) (Nat.le_of_ble_eq_true rfl) rfl rfl ?_
  intro K hK
  have hcc : 0 ≤ 0 := Nat.zero_le _
  have hss : 0 ≤ 0 := Nat.zero_le _
  have ka0_0 : gw_kd S a0 = 3 := (hS0 0 _ rfl).1
  have ra0_0_0 : gw_rf S a0 0 = a0 + 1 := (hS0 0 _ rfl).2.2 (0, 1) (by decide)
  have ra0_0_1 : gw_rf S a0 1 = a0 + 8 := (hS0 0 _ rfl).2.2 (1, 8) (by decide)
  have ra0_0_14 : gw_rf S a0 14 = a0 + 25 := (hS0 0 _ rfl).2.2 (14, 25) (by decide)
  have ra0_0_3 : gw_rf S a0 3 = a0 + 12 := (hS0 0 _ rfl).2.2 (3, 12) (by decide)
  have ra0_0_4 : gw_rf S a0 4 = a0 + 18 := (hS0 0 _ rfl).2.2 (4, 18) (by decide)
  have ka0_1 : gw_kd S (a0 + 1) = 4 := (hS0 1 _ rfl).1
  have ka0_12 : gw_kd S (a0 + 12) = 0 := (hS0 12 _ rfl).1
  have ra0_12_0 : gw_rf S (a0 + 12) 0 = a0 + 13 := (hS0 12 _ rfl).2.2 (0, 13) (by decide)
  have ka0_13 : gw_kd S (a0 + 13) = 7 := (hS0 13 _ rfl).1
  have ka0_18 : gw_kd S (a0 + 18) = 13 := (hS0 18 _ rfl).1
  have la0_18 : gw_ln S (a0 + 18) = 3 := (hS0 18 _ rfl).2.1
  have ka0_25 : gw_kd S (a0 + 25) = 2 := (hS0 25 _ rfl).1
  have ra0_25_12 : gw_rf S (a0 + 25) 12 = a0 + 34 := (hS0 25 _ rfl).2.2 (12, 34) (by decide)
  have ra0_25_4 : gw_rf S (a0 + 25) 4 = a0 + 30 := (hS0 25 _ rfl).2.2 (4, 30) (by decide)
  have ka0_30 : gw_kd S (a0 + 30) = 12 := (hS0 30 _ rfl).1
  have la0_30 : gw_ln S (a0 + 30) = 2 := (hS0 30 _ rfl).2.1
  have ka0_34 : gw_kd S (a0 + 34) = 12 := (hS0 34 _ rfl).1
  have la0_34 : gw_ln S (a0 + 34) = 2 := (hS0 34 _ rfl).2.1
  have ka0_8 : gw_kd S (a0 + 8) = 8 := (hS0 8 _ rfl).1
  unfold F_X3_figure at h
  refine hK _ _ _ _ _ _ _ ?_
  rw [fdX3_figure_0]
  simp only [gt_nil, true_and, eq_self, gt_iload_n, gt_ink, gw_nth, gt_tsw, gw_sw, bkX3_figure_0, ka0_0, ra0_0_0, ra0_0_1, ra0_0_14, ra0_0_3, ra0_0_4, ka0_1, ka0_12, ra0_12_0, ka0_13, ka0_18, la0_18, ka0_25, ra0_25_12, ra0_25_4, ka0_30, la0_30, ka0_34, la0_34, ka0_8, (show Int32.toNatClampNeg 0 = 0 from rfl), (show Int32.toNatClampNeg 1 = 1 from rfl)]
  refine ⟨fun c_1 => ?_, fun c_1 => ?_⟩
  · replace h := gw_ifp h c_1
    refine hK _ _ _ _ _ _ _ ?_
    rw [fdX3_figure_88]
    simp only [gt_nil, true_and, eq_self, gt_aload_n, gt_rfk, gw_nth, gt_get_r, gt_get_i, gt_get_z, gt_iret, gt_retz, bkX3_figure_88, ka0_0, ra0_0_0, ra0_0_1, ra0_0_14, ra0_0_3, ra0_0_4, ka0_1, ka0_12, ra0_12_0, ka0_13, ka0_18, la0_18, ka0_25, ra0_25_12, ra0_25_4, ka0_30, la0_30, ka0_34, la0_34, ka0_8, (show Int32.toNatClampNeg 0 = 0 from rfl), (show Int32.toNatClampNeg 1 = 1 from rfl)]
    obtain rfl := gw_inj1 h
    exact ⟨hcc, hss, hq⟩
  replace h := gw_ifn h c_1
  refine ⟨fun c_2 => ?_, fun c_2 => ?_⟩
  · replace h := gw_ifp h c_2
    refine hK _ _ _ _ _ _ _ ?_
    rw [fdX3_figure_93]
    simp only [gt_nil, true_and, eq_self, gt_aload_n, gt_rfk, gw_nth, gt_get_r, gt_get_i, gt_get_z, gt_iret, gt_retz, bkX3_figure_93, ka0_0, ra0_0_0, ra0_0_1, ra0_0_14, ra0_0_3, ra0_0_4, ka0_1, ka0_12, ra0_12_0, ka0_13, ka0_18, la0_18, ka0_25, ra0_25_12, ra0_25_4, ka0_30, la0_30, ka0_34, la0_34, ka0_8, (show Int32.toNatClampNeg 0 = 0 from rfl), (show Int32.toNatClampNeg 1 = 1 from rfl)]
    obtain rfl := gw_inj1 h
    exact ⟨hcc, hss, hq⟩
  replace h := gw_ifn h c_2
  refine ⟨fun c_3 => ?_, fun c_3 => ?_⟩
  · replace h := gw_ifp h c_3
    refine hK _ _ _ _ _ _ _ ?_
    rw [fdX3_figure_98]
    simp only [gt_nil, true_and, eq_self, gt_aload_n, gt_rfk, gw_nth, gt_get_r, gt_get_i, gt_get_z, gt_iret, gt_retz, bkX3_figure_98, ka0_0, ra0_0_0, ra0_0_1, ra0_0_14, ra0_0_3, ra0_0_4, ka0_1, ka0_12, ra0_12_0, ka0_13, ka0_18, la0_18, ka0_25, ra0_25_12, ra0_25_4, ka0_30, la0_30, ka0_34, la0_34, ka0_8, (show Int32.toNatClampNeg 0 = 0 from rfl), (show Int32.toNatClampNeg 1 = 1 from rfl)]
    obtain rfl := gw_inj1 h
    exact ⟨hcc, hss, hq⟩
  replace h := gw_ifn h c_3
  refine ⟨fun c_4 => ?_, fun c_4 => ?_⟩
  · replace h := gw_ifp h c_4
    refine hK _ _ _ _ _ _ _ ?_
    rw [fdX3_figure_103]
    simp only [gt_nil, true_and, eq_self, gt_aload_n, gt_rfk, gw_nth, gt_get_r, gt_get_i, gt_get_z, gt_v0, gt_v1, gt_v2, gt_v3, gt_v4, gt_v5, gt_iret, gt_retz, bkX3_figure_103, ka0_0, ra0_0_0, ra0_0_1, ra0_0_14, ra0_0_3, ra0_0_4, ka0_1, ka0_12, ra0_12_0, ka0_13, ka0_18, la0_18, ka0_25, ra0_25_12, ra0_25_4, ka0_30, la0_30, ka0_34, la0_34, ka0_8, (show Int32.toNatClampNeg 0 = 0 from rfl), (show Int32.toNatClampNeg 1 = 1 from rfl)]
    obtain ⟨r_5, e_7, h⟩ := gw_bnd h
    refine ⟨rfl, 0, 0, hcc, hss, ok_X8_size (gw_sub hS0 8 8 (by decide +kernel)) e_7 ?_⟩
    simp only [gt_nil, true_and, eq_self, gt_iret, gt_retz, Option.toList, List.cons_append, List.nil_append, Nat.add_zero, ka0_0, ra0_0_0, ra0_0_1, ra0_0_14, ra0_0_3, ra0_0_4, ka0_1, ka0_12, ra0_12_0, ka0_13, ka0_18, la0_18, ka0_25, ra0_25_12, ra0_25_4, ka0_30, la0_30, ka0_34, la0_34, ka0_8, (show Int32.toNatClampNeg 0 = 0 from rfl), (show Int32.toNatClampNeg 1 = 1 from rfl)]
    obtain rfl := gw_inj1 h
    exact ⟨hcc, hss, hq⟩
  replace h := gw_ifn h c_4
  refine ⟨fun c_9 => ?_, fun c_9 => ?_⟩
  · replace h := gw_ifp h c_9
    refine hK _ _ _ _ _ _ _ ?_
    rw [fdX3_figure_111]
    simp only [gt_nil, true_and, eq_self, gt_aload_n, gt_rfk, gw_nth, gt_get_r, gt_get_i, gt_get_z, gt_v0, gt_v1, gt_v2, gt_v3, gt_v4, gt_v5, gt_iret, gt_retz, bkX3_figure_111, ka0_0, ra0_0_0, ra0_0_1, ra0_0_14, ra0_0_3, ra0_0_4, ka0_1, ka0_12, ra0_12_0, ka0_13, ka0_18, la0_18, ka0_25, ra0_25_12, ra0_25_4, ka0_30, la0_30, ka0_34, la0_34, ka0_8, (show Int32.toNatClampNeg 0 = 0 from rfl), (show Int32.toNatClampNeg 1 = 1 from rfl)]
    obtain ⟨r_10, e_12, h⟩ := gw_bnd h
    refine ⟨rfl, 0, 0, hcc, hss, ok_X4_framesFree (gw_sub hS0 4 1 (by decide +kernel)) e_12 ?_⟩
    simp only [gt_nil, true_and, eq_self, gt_iret, gt_retz, Option.toList, List.cons_append, List.nil_append, Nat.add_zero, ka0_0, ra0_0_0, ra0_0_1, ra0_0_14, ra0_0_3, ra0_0_4, ka0_1, ka0_12, ra0_12_0, ka0_13, ka0_18, la0_18, ka0_25, ra0_25_12, ra0_25_4, ka0_30, la0_30, ka0_34, la0_34, ka0_8, (show Int32.toNatClampNeg 0 = 0 from rfl), (show Int32.toNatClampNeg 1 = 1 from rfl)]
    obtain rfl := gw_inj1 h
    exact ⟨hcc, hss, hq⟩
  replace h := gw_ifn h c_9
  refine ⟨fun c_14 => ?_, fun c_14 => ?_⟩
  · replace h := gw_ifp h c_14
    refine hK _ _ _ _ _ _ _ ?_
    rw [fdX3_figure_119]
    simp only [gt_nil, true_and, eq_self, gt_aload_n, gt_rfk, gw_nth, gt_get_r, gt_get_i, gt_get_z, gt_iconst, gt_iaload, gt_iret, gt_retz, bkX3_figure_119, ka0_0, ra0_0_0, ra0_0_1, ra0_0_14, ra0_0_3, ra0_0_4, ka0_1, ka0_12, ra0_12_0, ka0_13, ka0_18, la0_18, ka0_25, ra0_25_12, ra0_25_4, ka0_30, la0_30, ka0_34, la0_34, ka0_8, (show Int32.toNatClampNeg 0 = 0 from rfl), (show Int32.toNatClampNeg 1 = 1 from rfl)]
    refine ⟨(⟨by decide, by decide⟩ : gw_in 0 2), ?_⟩
    obtain rfl := gw_inj1 h
    exact ⟨hcc, hss, hq⟩
  replace h := gw_ifn h c_14
  refine ⟨fun c_15 => ?_, fun c_15 => ?_⟩
  · replace h := gw_ifp h c_15
    refine hK _ _ _ _ _ _ _ ?_
    rw [fdX3_figure_129]
    simp only [gt_nil, true_and, eq_self, gt_aload_n, gt_rfk, gw_nth, gt_get_r, gt_get_i, gt_get_z, gt_iconst, gt_iaload, gt_iret, gt_retz, bkX3_figure_129, ka0_0, ra0_0_0, ra0_0_1, ra0_0_14, ra0_0_3, ra0_0_4, ka0_1, ka0_12, ra0_12_0, ka0_13, ka0_18, la0_18, ka0_25, ra0_25_12, ra0_25_4, ka0_30, la0_30, ka0_34, la0_34, ka0_8, (show Int32.toNatClampNeg 0 = 0 from rfl), (show Int32.toNatClampNeg 1 = 1 from rfl)]
    refine ⟨(⟨by decide, by decide⟩ : gw_in 1 2), ?_⟩
    obtain rfl := gw_inj1 h
    exact ⟨hcc, hss, hq⟩
  replace h := gw_ifn h c_15
  refine ⟨fun c_16 => ?_, fun c_16 => ?_⟩
  · replace h := gw_ifp h c_16
    refine hK _ _ _ _ _ _ _ ?_
    rw [fdX3_figure_139]
    simp only [gt_nil, true_and, eq_self, gt_aload_n, gt_rfk, gw_nth, gt_get_r, gt_get_i, gt_get_z, gt_iret, gt_retz, bkX3_figure_139, ka0_0, ra0_0_0, ra0_0_1, ra0_0_14, ra0_0_3, ra0_0_4, ka0_1, ka0_12, ra0_12_0, ka0_13, ka0_18, la0_18, ka0_25, ra0_25_12, ra0_25_4, ka0_30, la0_30, ka0_34, la0_34, ka0_8, (show Int32.toNatClampNeg 0 = 0 from rfl), (show Int32.toNatClampNeg 1 = 1 from rfl)]
    obtain rfl := gw_inj1 h
    exact ⟨hcc, hss, hq⟩
  replace h := gw_ifn h c_16
  refine ⟨fun c_17 => ?_, fun c_17 => ?_⟩
  · replace h := gw_ifp h c_17
    refine hK _ _ _ _ _ _ _ ?_
    rw [fdX3_figure_147]
    simp only [gt_nil, true_and, eq_self, gt_aload_n, gt_rfk, gw_nth, gt_get_r, gt_get_i, gt_get_z, gt_iret, gt_retz, bkX3_figure_147, ka0_0, ra0_0_0, ra0_0_1, ra0_0_14, ra0_0_3, ra0_0_4, ka0_1, ka0_12, ra0_12_0, ka0_13, ka0_18, la0_18, ka0_25, ra0_25_12, ra0_25_4, ka0_30, la0_30, ka0_34, la0_34, ka0_8, (show Int32.toNatClampNeg 0 = 0 from rfl), (show Int32.toNatClampNeg 1 = 1 from rfl)]
    obtain rfl := gw_inj1 h
    exact ⟨hcc, hss, hq⟩
  replace h := gw_ifn h c_17
  refine ⟨fun c_18 => ?_, fun c_18 => ?_⟩
  · replace h := gw_ifp h c_18
    refine hK _ _ _ _ _ _ _ ?_
    rw [fdX3_figure_155]
    simp only [gt_nil, true_and, eq_self, gt_aload_n, gt_rfk, gw_nth, gt_get_r, gt_get_i, gt_get_z, gt_iconst, gt_iaload, gt_iret, gt_retz, bkX3_figure_155, ka0_0, ra0_0_0, ra0_0_1, ra0_0_14, ra0_0_3, ra0_0_4, ka0_1, ka0_12, ra0_12_0, ka0_13, ka0_18, la0_18, ka0_25, ra0_25_12, ra0_25_4, ka0_30, la0_30, ka0_34, la0_34, ka0_8, (show Int32.toNatClampNeg 0 = 0 from rfl), (show Int32.toNatClampNeg 1 = 1 from rfl)]
    refine ⟨(⟨by decide, by decide⟩ : gw_in 0 2), ?_⟩
    obtain rfl := gw_inj1 h
    exact ⟨hcc, hss, hq⟩
  replace h := gw_ifn h c_18
  refine ⟨fun c_19 => ?_, fun c_19 => ?_⟩
  · replace h := gw_ifp h c_19
    refine hK _ _ _ _ _ _ _ ?_
    rw [fdX3_figure_165]
    simp only [gt_nil, true_and, eq_self, gt_aload_n, gt_rfk, gw_nth, gt_get_r, gt_get_i, gt_get_z, gt_iconst, gt_iaload, gt_iret, gt_retz, bkX3_figure_165, ka0_0, ra0_0_0, ra0_0_1, ra0_0_14, ra0_0_3, ra0_0_4, ka0_1, ka0_12, ra0_12_0, ka0_13, ka0_18, la0_18, ka0_25, ra0_25_12, ra0_25_4, ka0_30, la0_30, ka0_34, la0_34, ka0_8, (show Int32.toNatClampNeg 0 = 0 from rfl), (show Int32.toNatClampNeg 1 = 1 from rfl)]
    refine ⟨(⟨by decide, by decide⟩ : gw_in 1 2), ?_⟩
    obtain rfl := gw_inj1 h
    exact ⟨hcc, hss, hq⟩
  replace h := gw_ifn h c_19
  refine ⟨fun c_20 => ?_, fun c_20 => ?_⟩
  · replace h := gw_ifp h c_20
    refine hK _ _ _ _ _ _ _ ?_
    rw [fdX3_figure_175]
    simp only [gt_nil, true_and, eq_self, gt_aload_n, gt_rfk, gw_nth, gt_get_r, gt_get_i, gt_get_z, gt_iret, gt_retz, bkX3_figure_175, ka0_0, ra0_0_0, ra0_0_1, ra0_0_14, ra0_0_3, ra0_0_4, ka0_1, ka0_12, ra0_12_0, ka0_13, ka0_18, la0_18, ka0_25, ra0_25_12, ra0_25_4, ka0_30, la0_30, ka0_34, la0_34, ka0_8, (show Int32.toNatClampNeg 0 = 0 from rfl), (show Int32.toNatClampNeg 1 = 1 from rfl)]
    obtain rfl := gw_inj1 h
    exact ⟨hcc, hss, hq⟩
  replace h := gw_ifn h c_20
  refine ⟨fun c_21 => ?_, fun c_21 => ?_⟩
  · replace h := gw_ifp h c_21
    refine hK _ _ _ _ _ _ _ ?_
    rw [fdX3_figure_186]
    simp only [gt_nil, true_and, eq_self, gt_aload_n, gt_rfk, gw_nth, gt_get_r, gt_get_i, gt_get_z, gt_aaload, true_or, or_true, gt_iret, gt_retz, bkX3_figure_186, ka0_0, ra0_0_0, ra0_0_1, ra0_0_14, ra0_0_3, ra0_0_4, ka0_1, ka0_12, ra0_12_0, ka0_13, ka0_18, la0_18, ka0_25, ra0_25_12, ra0_25_4, ka0_30, la0_30, ka0_34, la0_34, ka0_8, (show Int32.toNatClampNeg 0 = 0 from rfl), (show Int32.toNatClampNeg 1 = 1 from rfl)]
    obtain ⟨c_22, h⟩ := gw_ife h
    refine ⟨c_22, ?_⟩
    obtain ⟨q_23, hq_23, h⟩ := gw_lt h
    obtain ⟨hsq_23, hrq_23⟩ : gw_sh S 1 (a0 + 37 + 15 * (μ a0 5).toNatClampNeg) ∧ gw_rf S (a0 + 18) (μ a0 5).toNatClampNeg = a0 + 37 + 15 * (μ a0 5).toNatClampNeg := gw_sub_in hS0 c_22.2
    rw [← hq_23] at hsq_23 hrq_23
    have kq_23_0 : gw_kd S q_23 = 1 := (hsq_23 0 _ rfl).1
    have rq_23_0_0 : gw_rf S q_23 0 = q_23 + 1 := (hsq_23 0 _ rfl).2.2 (0, 1) (by decide)
    have kq_23_1 : gw_kd S (q_23 + 1) = 0 := (hsq_23 1 _ rfl).1
    have rq_23_1_0 : gw_rf S (q_23 + 1) 0 = q_23 + 2 := (hsq_23 1 _ rfl).2.2 (0, 2) (by decide)
    have kq_23_2 : gw_kd S (q_23 + 2) = 7 := (hsq_23 2 _ rfl).1
    simp only [gt_nil, true_and, eq_self, gt_get_r, gt_get_i, gt_get_z, gt_iret, gt_retz, hrq_23, ka0_0, ra0_0_0, ra0_0_1, ra0_0_14, ra0_0_3, ra0_0_4, ka0_1, ka0_12, ra0_12_0, ka0_13, ka0_18, la0_18, ka0_25, ra0_25_12, ra0_25_4, ka0_30, la0_30, ka0_34, la0_34, ka0_8, kq_23_0, rq_23_0_0, kq_23_1, rq_23_1_0, kq_23_2, (show Int32.toNatClampNeg 0 = 0 from rfl), (show Int32.toNatClampNeg 1 = 1 from rfl)]
    obtain rfl := gw_inj1 h
    exact ⟨hcc, hss, hq⟩
  replace h := gw_ifn h c_21
  refine ⟨fun c_24 => ?_, fun c_24 => ?_⟩
  · replace h := gw_ifp h c_24
    refine hK _ _ _ _ _ _ _ ?_
    rw [fdX3_figure_205]
    simp only [gt_nil, true_and, eq_self, gt_aload_n, gt_rfk, gw_nth, gt_get_r, gt_get_i, gt_get_z, gt_iret, gt_retz, bkX3_figure_205, ka0_0, ra0_0_0, ra0_0_1, ra0_0_14, ra0_0_3, ra0_0_4, ka0_1, ka0_12, ra0_12_0, ka0_13, ka0_18, la0_18, ka0_25, ra0_25_12, ra0_25_4, ka0_30, la0_30, ka0_34, la0_34, ka0_8, (show Int32.toNatClampNeg 0 = 0 from rfl), (show Int32.toNatClampNeg 1 = 1 from rfl)]
    obtain rfl := gw_inj1 h
    exact ⟨hcc, hss, hq⟩
  replace h := gw_ifn h c_24
  refine ⟨fun c_25 => ?_, fun c_25 => ?_⟩
  · replace h := gw_ifp h c_25
    refine hK _ _ _ _ _ _ _ ?_
    rw [fdX3_figure_210]
    simp only [gt_nil, true_and, eq_self, gt_aload_n, gt_rfk, gw_nth, gt_get_r, gt_get_i, gt_get_z, gt_iret, gt_retz, bkX3_figure_210, ka0_0, ra0_0_0, ra0_0_1, ra0_0_14, ra0_0_3, ra0_0_4, ka0_1, ka0_12, ra0_12_0, ka0_13, ka0_18, la0_18, ka0_25, ra0_25_12, ra0_25_4, ka0_30, la0_30, ka0_34, la0_34, ka0_8, (show Int32.toNatClampNeg 0 = 0 from rfl), (show Int32.toNatClampNeg 1 = 1 from rfl)]
    obtain rfl := gw_inj1 h
    exact ⟨hcc, hss, hq⟩
  replace h := gw_ifn h c_25
  refine ⟨fun c_26 => ?_, fun c_26 => ?_⟩
  · replace h := gw_ifp h c_26
    refine hK _ _ _ _ _ _ _ ?_
    rw [fdX3_figure_215]
    simp only [gt_nil, true_and, eq_self, gt_aload_n, gt_rfk, gw_nth, gt_get_r, gt_get_i, gt_get_z, gt_iret, gt_retz, bkX3_figure_215, ka0_0, ra0_0_0, ra0_0_1, ra0_0_14, ra0_0_3, ra0_0_4, ka0_1, ka0_12, ra0_12_0, ka0_13, ka0_18, la0_18, ka0_25, ra0_25_12, ra0_25_4, ka0_30, la0_30, ka0_34, la0_34, ka0_8, (show Int32.toNatClampNeg 0 = 0 from rfl), (show Int32.toNatClampNeg 1 = 1 from rfl)]
    obtain rfl := gw_inj1 h
    exact ⟨hcc, hss, hq⟩
  replace h := gw_ifn h c_26
  refine ⟨fun c_27 => ?_, fun c_27 => ?_⟩
  · replace h := gw_ifp h c_27
    refine hK _ _ _ _ _ _ _ ?_
    rw [fdX3_figure_223]
    simp only [gt_nil, true_and, eq_self, gt_aload_n, gt_rfk, gw_nth, gt_get_r, gt_get_i, gt_get_z, gt_iret, gt_retz, bkX3_figure_223, ka0_0, ra0_0_0, ra0_0_1, ra0_0_14, ra0_0_3, ra0_0_4, ka0_1, ka0_12, ra0_12_0, ka0_13, ka0_18, la0_18, ka0_25, ra0_25_12, ra0_25_4, ka0_30, la0_30, ka0_34, la0_34, ka0_8, (show Int32.toNatClampNeg 0 = 0 from rfl), (show Int32.toNatClampNeg 1 = 1 from rfl)]
    obtain rfl := gw_inj1 h
    exact ⟨hcc, hss, hq⟩
  replace h := gw_ifn h c_27
  refine ⟨fun c_28 => ?_, fun c_28 => ?_⟩
  · replace h := gw_ifp h c_28
    refine hK _ _ _ _ _ _ _ ?_
    rw [fdX3_figure_231]
    simp only [gt_nil, true_and, eq_self, gt_aload_n, gt_rfk, gw_nth, gt_get_r, gt_get_i, gt_get_z, gt_iret, gt_retz, bkX3_figure_231, ka0_0, ra0_0_0, ra0_0_1, ra0_0_14, ra0_0_3, ra0_0_4, ka0_1, ka0_12, ra0_12_0, ka0_13, ka0_18, la0_18, ka0_25, ra0_25_12, ra0_25_4, ka0_30, la0_30, ka0_34, la0_34, ka0_8, (show Int32.toNatClampNeg 0 = 0 from rfl), (show Int32.toNatClampNeg 1 = 1 from rfl)]
    obtain rfl := gw_inj1 h
    exact ⟨hcc, hss, hq⟩
  replace h := gw_ifn h c_28
  refine hK _ _ _ _ _ _ _ ?_
  rw [fdX3_figure_236]
  simp only [gt_nil, true_and, eq_self, gt_iconst, gt_iret, gt_retz, bkX3_figure_236, ka0_0, ra0_0_0, ra0_0_1, ra0_0_14, ra0_0_3, ra0_0_4, ka0_1, ka0_12, ra0_12_0, ka0_13, ka0_18, la0_18, ka0_25, ra0_25_12, ra0_25_4, ka0_30, la0_30, ka0_34, la0_34, ka0_8, (show Int32.toNatClampNeg 0 = 0 from rfl), (show Int32.toNatClampNeg 1 = 1 from rfl)]
  obtain rfl := gw_inj1 h
  exact ⟨hcc, hss, hq⟩
def F_X3_mayTell_30 (n0 : Nat) (a0 : Nat) (μ : gw_M) : Option (Int32) := some 1
def F_X3_mayTell_25 (n0 : Nat) (a0 : Nat) (v1 : Int32) (μ : gw_M) : Option (Int32) := (if ¬ v1 = 2 then some 0 else F_X3_mayTell_30 n0 a0 μ)
def F_X3_mayTell_12 (n0 : Nat) (a0 : Nat) (v1 : Int32) (μ : gw_M) : Option (Int32) := (if ¬ v1 = 1 then F_X3_mayTell_25 n0 a0 v1 μ else (if (μ a0 6) = 1 then F_X3_mayTell_30 n0 a0 μ else F_X3_mayTell_25 n0 a0 v1 μ))
def F_X3_mayTell (n0 : Nat) (a0 : Nat) (v1 : Int32) (μ : gw_M) : Option (Int32) := (if ¬ v1 = 0 then F_X3_mayTell_12 n0 a0 v1 μ else (if (μ a0 6) = 2 then F_X3_mayTell_30 n0 a0 μ else F_X3_mayTell_12 n0 a0 v1 μ))
theorem B_X3_mayTell_30 {l : Launch} {x : gw_C} {d : Nat} {S : gw_S} {Q : Option Value → gw_S → gw_M → Prop} {K : Nat → gw_Kt} {mc ms cc ss : Nat} (hcc : cc ≤ mc) (hss : ss ≤ ms) (hK : gw_cl l x (d + 0) mc ms bsX3_mayTell Q K) {a0 : Nat} (hS0 : gw_sh S 3 a0) {n0 : Nat}  {u1 : Value} {μ : gw_M} {r} (h : F_X3_mayTell_30 n0 a0 μ = some r) (hq : ((r = 0 ∨ r = 1) → Q (some (.int r)) S μ)) : K 30 [.ref a0, u1] [] S μ cc ss := by
  unfold F_X3_mayTell_30 at h
  refine hK _ _ _ _ _ _ _ ?_
  rw [fdX3_mayTell_30]
  simp only [gt_nil, true_and, eq_self, gt_iconst, gt_goto, bkX3_mayTell_30]
  refine hK _ _ _ _ _ _ _ ?_
  rw [fdX3_mayTell_35]
  simp only [gt_nil, true_and, eq_self, gt_iret, gt_retz, bkX3_mayTell_35]
  obtain rfl := gw_inj1 h
  exact ⟨(Or.inr rfl), hcc, hss, hq (Or.inr rfl)⟩
theorem B_X3_mayTell_25 {l : Launch} {x : gw_C} {d : Nat} {S : gw_S} {Q : Option Value → gw_S → gw_M → Prop} {K : Nat → gw_Kt} {mc ms cc ss : Nat} (hcc : cc ≤ mc) (hss : ss ≤ ms) (hK : gw_cl l x (d + 0) mc ms bsX3_mayTell Q K) {a0 : Nat} (hS0 : gw_sh S 3 a0) {n0 : Nat} {v1} {μ : gw_M} {r} (h : F_X3_mayTell_25 n0 a0 v1 μ = some r) (hq : ((r = 0 ∨ r = 1) → Q (some (.int r)) S μ)) : K 25 [.ref a0, .int v1] [] S μ cc ss := by
  unfold F_X3_mayTell_25 at h
  refine hK _ _ _ _ _ _ _ ?_
  rw [fdX3_mayTell_25]
  simp only [gt_nil, true_and, eq_self, gt_iload_n, gt_ink, gw_nth, gt_iconst, gt_icmp, bkX3_mayTell_25]
  refine ⟨fun c_1 => ?_, fun c_1 => ?_⟩
  · replace h := gw_ifp2 (gw_c2_ne _ _) h c_1
    refine hK _ _ _ _ _ _ _ ?_
    rw [fdX3_mayTell_34]
    simp only [gt_nil, true_and, eq_self, gt_iconst, bkX3_mayTell_34]
    refine hK _ _ _ _ _ _ _ ?_
    rw [fdX3_mayTell_35]
    simp only [gt_nil, true_and, eq_self, gt_iret, gt_retz, bkX3_mayTell_35]
    obtain rfl := gw_inj1 h
    exact ⟨(Or.inl rfl), hcc, hss, hq (Or.inl rfl)⟩
  · replace h := gw_ifn2 (gw_c2_ne _ _) h c_1
    exact B_X3_mayTell_30 hcc hss hK hS0 h hq
theorem B_X3_mayTell_12 {l : Launch} {x : gw_C} {d : Nat} {S : gw_S} {Q : Option Value → gw_S → gw_M → Prop} {K : Nat → gw_Kt} {mc ms cc ss : Nat} (hcc : cc ≤ mc) (hss : ss ≤ ms) (hK : gw_cl l x (d + 0) mc ms bsX3_mayTell Q K) {a0 : Nat} (hS0 : gw_sh S 3 a0) {n0 : Nat} {v1} {μ : gw_M} {r} (h : F_X3_mayTell_12 n0 a0 v1 μ = some r) (hq : ((r = 0 ∨ r = 1) → Q (some (.int r)) S μ)) : K 12 [.ref a0, .int v1] [] S μ cc ss := by
  have ka0_0 : gw_kd S a0 = 3 := (hS0 0 _ rfl).1
  unfold F_X3_mayTell_12 at h
  refine hK _ _ _ _ _ _ _ ?_
  rw [fdX3_mayTell_12]
  simp only [gt_nil, true_and, eq_self, gt_iload_n, gt_ink, gw_nth, gt_iconst, gt_icmp, gt_aload_n, gt_rfk, gt_get_r, gt_get_i, gt_get_z, bkX3_mayTell_12, ka0_0]
  refine ⟨fun c_1 => ?_, fun c_1 => ?_⟩
  · replace h := gw_ifp2 (gw_c2_ne _ _) h c_1
    exact B_X3_mayTell_25 hcc hss hK hS0 h hq
  · replace h := gw_ifn2 (gw_c2_ne _ _) h c_1
    refine ⟨fun c_2 => ?_, fun c_2 => ?_⟩
    · replace h := gw_ifp2 (gw_c2_eq _ _) h c_2
      exact B_X3_mayTell_30 hcc hss hK hS0 h hq
    · replace h := gw_ifn2 (gw_c2_eq _ _) h c_2
      exact B_X3_mayTell_25 hcc hss hK hS0 h hq
theorem ok_X3_mayTell {l : Launch} {x : gw_C} {d : Nat} {S : gw_S} {Q : Option Value → gw_S → gw_M → Prop} {v1 : Int32} {a0 : Nat} {n0 : Nat} {μ : gw_M} {r} (hS0 : gw_sh S 3 a0) (h : F_X3_mayTell n0 a0 v1 μ = some r) (hq : ((r = 0 ∨ r = 1) → Q (some (.int r)) S μ)) : gw_ok l x (d + 1) sgX3_mayTell 0 0 [.ref a0, .int v1] S μ Q := by
  refine gw_ok_of stX3_mayTell (lv0 := [.ref a0, .int v1]) (Nat.le_of_ble_eq_true rfl) rfl rfl ?_
  intro K hK
  have hcc : 0 ≤ 0 := Nat.zero_le _
  have hss : 0 ≤ 0 := Nat.zero_le _
  have ka0_0 : gw_kd S a0 = 3 := (hS0 0 _ rfl).1
  unfold F_X3_mayTell at h
  refine hK _ _ _ _ _ _ _ ?_
  rw [fdX3_mayTell_0]
  simp only [gt_nil, true_and, eq_self, gt_iload_n, gt_ink, gw_nth, gt_if, gt_aload_n, gt_rfk, gt_get_r, gt_get_i, gt_get_z, gt_iconst, gt_icmp, bkX3_mayTell_0, ka0_0]
  refine ⟨fun c_1 => ?_, fun c_1 => ?_⟩
  · replace h := gw_ifp h c_1
    exact B_X3_mayTell_12 hcc hss hK hS0 h hq
  · replace h := gw_ifn h c_1
    refine ⟨fun c_2 => ?_, fun c_2 => ?_⟩
    · replace h := gw_ifp2 (gw_c2_eq _ _) h c_2
      exact B_X3_mayTell_30 hcc hss hK hS0 h hq
    · replace h := gw_ifn2 (gw_c2_eq _ _) h c_2
      exact B_X3_mayTell_12 hcc hss hK hS0 h hq
def F_X8_drop (n0 : Nat) (a0 : Nat) (v1 : Int32) (μ : gw_M) : Option (gw_M) := (if 0 ≤ v1 ∧ v1.toNatClampNeg < 16 then gw_let (gw_up μ (a0 + 1) v1.toNatClampNeg (-1)) (fun (μ_2 : gw_M) => (if 0 ≤ v1 ∧ v1.toNatClampNeg < 16 then gw_let (gw_up μ_2 (a0 + 2) v1.toNatClampNeg 0) (fun (μ_4 : gw_M) => some μ_4) else none)) else none)
theorem ok_X8_drop {l : Launch} {x : gw_C} {d : Nat} {S : gw_S} {Q : Option Value → gw_S → gw_M → Prop} {v1 : Int32} {a0 : Nat} {n0 : Nat} {μ : gw_M} {μ'} (hS0 : gw_sh S 8 a0) (h : F_X8_drop n0 a0 v1 μ = some μ') (hq : Q none S μ') : gw_ok l x (d + 1) sgX8_drop 0 0 [.ref a0, .int v1] S μ Q := by
  refine gw_ok_of stX8_drop (lv0 := [.ref a0, .int v1]) (Nat.le_of_ble_eq_true rfl) rfl rfl ?_
  intro K hK
  have hcc : 0 ≤ 0 := Nat.zero_le _
  have hss : 0 ≤ 0 := Nat.zero_le _
  have ka0_0 : gw_kd S a0 = 8 := (hS0 0 _ rfl).1
  have ra0_0_0 : gw_rf S a0 0 = a0 + 1 := (hS0 0 _ rfl).2.2 (0, 1) (by decide)
  have ra0_0_1 : gw_rf S a0 1 = a0 + 2 := (hS0 0 _ rfl).2.2 (1, 2) (by decide)
  have ka0_1 : gw_kd S (a0 + 1) = 12 := (hS0 1 _ rfl).1
  have la0_1 : gw_ln S (a0 + 1) = 16 := (hS0 1 _ rfl).2.1
  have ka0_2 : gw_kd S (a0 + 2) = 12 := (hS0 2 _ rfl).1
  have la0_2 : gw_ln S (a0 + 2) = 16 := (hS0 2 _ rfl).2.1
  unfold F_X8_drop at h
  refine hK _ _ _ _ _ _ _ ?_
  rw [fdX8_drop_0]
  simp only [gt_nil, true_and, eq_self, gt_aload_n, gt_rfk, gw_nth, gt_get_r, gt_get_i, gt_get_z, gt_iload_n, gt_ink, gt_iconst, gt_iastore, gt_vret, bkX8_drop_0, ka0_0, ra0_0_0, ra0_0_1, ka0_1, la0_1, ka0_2, la0_2]
  obtain ⟨c_1, h⟩ := gw_ife h
  refine ⟨c_1, ?_⟩
  obtain ⟨μ_2, hμ_2, h⟩ := gw_lt h
  try rw [← hμ_2]
  obtain ⟨c_3, h⟩ := gw_ife h
  refine ⟨c_3, ?_⟩
  obtain ⟨μ_4, hμ_4, h⟩ := gw_lt h
  try rw [← hμ_4]
  obtain rfl := gw_inj1 h
  exact ⟨hcc, hss, hq⟩
def F_X3_tellInner (n0 : Nat) (a0 : Nat) (v1 : Int32) (v2 : Int32) (v3 : Int32) (μ : gw_M) : Option (gw_M) := (F_X3_inHand n0 a0 μ).bind (fun (r_1 : Nat) => (F_X8_put n0 (r_1 + 11) v1 v2 v3 μ).bind (fun (μ_6 : gw_M) => (F_X8_drop n0 (a0 + 8) v1 μ_6).bind (fun (μ_10 : gw_M) => some μ_10)))
theorem ok_X3_tellInner {l : Launch} {x : gw_C} {d : Nat} {S : gw_S} {Q : Option Value → gw_S → gw_M → Prop} {v1 v2 v3 : Int32} {a0 : Nat} {n0 : Nat} {μ : gw_M} {μ'} (hS0 : gw_sh S 3 a0) (h : F_X3_tellInner n0 a0 v1 v2 v3 μ = some μ') (hq : Q none S μ') : gw_ok l x (d + 2) sgX3_tellInner 0 0 [.ref a0, .int v1, .int v2, .int v3] S μ Q := by
  refine gw_ok_of stX3_tellInner (lv0 := [.ref a0, .int v1, .int v2, .int v3]) (Nat.le_of_ble_eq_true rfl) rfl rfl ?_
  intro K hK
  have hcc : 0 ≤ 0 := Nat.zero_le _
  have hss : 0 ≤ 0 := Nat.zero_le _
  have ka0_0 : gw_kd S a0 = 3 := (hS0 0 _ rfl).1
  have ra0_0_1 : gw_rf S a0 1 = a0 + 8 := (hS0 0 _ rfl).2.2 (1, 8) (by decide)
  have ka0_8 : gw_kd S (a0 + 8) = 8 := (hS0 8 _ rfl).1
  unfold F_X3_tellInner at h
  refine hK _ _ _ _ _ _ _ ?_
  rw [fdX3_tellInner_0]
  simp only [gt_nil, true_and, eq_self, gt_aload_n, gt_rfk, gw_nth, gt_v0, gt_v1, gt_v2, gt_v3, gt_v4, gt_v5, gt_get_r, gt_get_i, gt_get_z, gt_iload_n, gt_ink, gt_vret, bkX3_tellInner_0, ka0_0, ra0_0_1, ka0_8]
  obtain ⟨r_1, e_3, h⟩ := gw_bnd h
  refine ⟨rfl, 0, 0, hcc, hss, ok_X3_inHand hS0 e_3 ?_⟩
  intro hsr_1
  have kr_1_0 : gw_kd S r_1 = 1 := (hsr_1 0 _ rfl).1
  have rr_1_0_2 : gw_rf S r_1 2 = r_1 + 11 := (hsr_1 0 _ rfl).2.2 (2, 11) (by decide)
  have kr_1_11 : gw_kd S (r_1 + 11) = 8 := (hsr_1 11 _ rfl).1
  simp only [gt_nil, true_and, eq_self, gt_get_r, gt_get_i, gt_get_z, gt_iload_n, gt_ink, gw_nth, gt_v0, gt_v1, gt_v2, gt_v3, gt_v4, gt_v5, gt_aload_n, gt_rfk, gt_vret, Option.toList, List.cons_append, List.nil_append, Nat.add_zero, ka0_0, ra0_0_1, ka0_8, kr_1_0, rr_1_0_2, kr_1_11]
  obtain ⟨μ_6, e_7, h⟩ := gw_bnd h
  refine ⟨rfl, 0, 0, hcc, hss, ok_X8_put (gw_sub hsr_1 8 11 (by decide +kernel)) e_7 ?_⟩
  simp only [gt_nil, true_and, eq_self, gt_aload_n, gt_rfk, gw_nth, gt_get_r, gt_get_i, gt_get_z, gt_iload_n, gt_ink, gt_v0, gt_v1, gt_v2, gt_v3, gt_v4, gt_v5, gt_vret, Option.toList, List.cons_append, List.nil_append, Nat.add_zero, ka0_0, ra0_0_1, ka0_8, kr_1_0, rr_1_0_2, kr_1_11]
  obtain ⟨μ_10, e_11, h⟩ := gw_bnd h
  refine ⟨rfl, 0, 0, hcc, hss, ok_X8_drop (gw_sub hS0 8 8 (by decide +kernel)) e_11 ?_⟩
  simp only [gt_nil, true_and, eq_self, gt_vret, Option.toList, List.cons_append, List.nil_append, Nat.add_zero, ka0_0, ra0_0_1, ka0_8, kr_1_0, rr_1_0_2, kr_1_11]
  obtain rfl := gw_inj1 h
  exact ⟨hcc, hss, hq⟩
def F_X3_unfold_47 (rec10 : Int32 → Nat → Int32 → gw_M → Option (gw_M)) (n0 : Nat) (a0 : Nat) (v1 : Int32) (p2 : Nat) (v3 : Int32) (μ : gw_M) : Option (gw_M) := gw_let (v3 + 1) (fun (w_1 : Int32) => rec10 v1 p2 w_1 μ)
def F_X3_unfold_10 (n0 : Nat) (a0 : Nat) : Nat → Int32 → Nat → Int32 → gw_M → Option (gw_M)
  | 0, _, _, _, _ => none
  | n + 1, v1, p2, v3, μ => (if 16 ≤ v3 then some μ else (if 0 ≤ v3 ∧ v3.toNatClampNeg < 16 then (if (μ (p2 + 1) v3.toNatClampNeg) = (-1) then F_X3_unfold_47 (F_X3_unfold_10 n0 a0 n) n0 a0 v1 p2 v3 μ else (if 0 ≤ v3 ∧ v3.toNatClampNeg < 16 then (F_X10_hasBit n0 v1 (μ (p2 + 1) v3.toNatClampNeg) μ).bind (fun (r_5 : Int32) => (if r_5 = 0 then F_X3_unfold_47 (F_X3_unfold_10 n0 a0 n) n0 a0 v1 p2 v3 μ else (F_X8_drop n0 (a0 + 8) v3 μ).bind (fun (μ_11 : gw_M) => F_X3_unfold_47 (F_X3_unfold_10 n0 a0 n) n0 a0 v1 p2 v3 μ_11))) else none)) else none))
def F_X3_unfold (n0 : Nat) (a0 : Nat) (v1 : Int32) (μ : gw_M) : Option (gw_M) := (F_X3_inHand n0 a0 μ).bind (fun (r_1 : Nat) => F_X3_unfold_10 n0 a0 n0 v1 (r_1 + 11) 0 μ)
theorem B_X3_unfold_47 {l : Launch} {x : gw_C} {d : Nat} {S : gw_S} {Q : Option Value → gw_S → gw_M → Prop} {K : Nat → gw_Kt} {mc ms cc ss : Nat} (hcc : cc ≤ mc) (hss : ss ≤ ms) (hK : gw_cl l x (d + 1) mc ms bsX3_unfold Q K) {a0 : Nat} (hS0 : gw_sh S 3 a0) {rec10 : Int32 → Nat → Int32 → gw_M → Option (gw_M)} (hrec10 : ∀ {v1 p2 v3} {μ : gw_M} {μ'}, gw_sh S 8 p2 → rec10 v1 p2 v3 μ = some μ' → Q none S μ' → K 10 [.ref a0, .int v1, .ref p2, .int v3] [] S μ cc ss) {p2 : Nat} (hpp2 : gw_sh S 8 p2) {n0 : Nat} {v1 v3} {μ : gw_M} {μ'} (h : F_X3_unfold_47 rec10 n0 a0 v1 p2 v3 μ = some μ') (hq : Q none S μ') : K 47 [.ref a0, .int v1, .ref p2, .int v3] [] S μ cc ss := by
  unfold F_X3_unfold_47 at h
  refine hK _ _ _ _ _ _ _ ?_
  rw [fdX3_unfold_47]
  simp only [gt_nil, true_and, eq_self, gt_iinc, gt_ink, gw_nth, gw_set, gt_goto, bkX3_unfold_47]
  obtain ⟨w_1, hw_1, h⟩ := gw_lt h
  try rw [← hw_1]
  exact hrec10 hpp2 h hq
theorem B_X3_unfold_10 {l : Launch} {x : gw_C} {d : Nat} {S : gw_S} {Q : Option Value → gw_S → gw_M → Prop} {K : Nat → gw_Kt} {mc ms cc ss : Nat} (hcc : cc ≤ mc) (hss : ss ≤ ms) (hK : gw_cl l x (d + 1) mc ms bsX3_unfold Q K) {a0 : Nat} (hS0 : gw_sh S 3 a0) {n0 : Nat} : ∀ {n : Nat} {v1 p2 v3} {μ : gw_M} {μ'}, gw_sh S 8 p2 → F_X3_unfold_10 n0 a0 n v1 p2 v3 μ = some μ' → Q none S μ' → K 10 [.ref a0, .int v1, .ref p2, .int v3] [] S μ cc ss := by
  have ka0_0 : gw_kd S a0 = 3 := (hS0 0 _ rfl).1
  have ra0_0_1 : gw_rf S a0 1 = a0 + 8 := (hS0 0 _ rfl).2.2 (1, 8) (by decide)
  have ka0_8 : gw_kd S (a0 + 8) = 8 := (hS0 8 _ rfl).1
  intro n
  induction n with
  | zero => intro v1 p2 v3 μ μ' hpp2 h hq; simp [F_X3_unfold_10] at h
  | succ n ih =>
    intro v1 p2 v3 μ μ' hpp2 h hq
    have kp2_0 : gw_kd S p2 = 8 := (hpp2 0 _ rfl).1
    have rp2_0_0 : gw_rf S p2 0 = p2 + 1 := (hpp2 0 _ rfl).2.2 (0, 1) (by decide)
    have kp2_1 : gw_kd S (p2 + 1) = 12 := (hpp2 1 _ rfl).1
    have lp2_1 : gw_ln S (p2 + 1) = 16 := (hpp2 1 _ rfl).2.1
    simp only [F_X3_unfold_10] at h
    refine hK _ _ _ _ _ _ _ ?_
    rw [fdX3_unfold_10]
    simp only [gt_nil, true_and, eq_self, gt_iload_n, gt_ink, gw_nth, gt_bipush, gt_icmp, gt_aload_n, gt_rfk, gt_get_r, gt_get_i, gt_get_z, gt_iaload, gt_iconst, gt_s1_0, gt_s2_0, gt_s3_0, gt_s4_0, gt_s1_1, gt_s2_1, gt_s3_1, gt_s4_1, gt_acpy, gt_if, gt_v0, gt_v1, gt_v2, gt_v3, gt_v4, gt_v5, bkX3_unfold_10, ka0_0, ra0_0_1, ka0_8, kp2_0, rp2_0_0, kp2_1, lp2_1]
    refine ⟨fun c_1 => ?_, fun c_1 => ?_⟩
    · replace h := gw_ifp2 (gw_c2_ge _ _) h c_1
      refine hK _ _ _ _ _ _ _ ?_
      rw [fdX3_unfold_53]
      simp only [gt_nil, true_and, eq_self, gt_vret, bkX3_unfold_53, ka0_0, ra0_0_1, ka0_8, kp2_0, rp2_0_0, kp2_1, lp2_1]
      obtain rfl := gw_inj1 h
      exact ⟨hcc, hss, hq⟩
    · replace h := gw_ifn2 (gw_c2_ge _ _) h c_1
      obtain ⟨c_2, h⟩ := gw_ife h
      refine ⟨c_2, ?_⟩
      refine ⟨fun c_3 => ?_, fun c_3 => ?_⟩
      · replace h := gw_ifp2 (gw_c2_eq _ _) h c_3
        exact B_X3_unfold_47 hcc hss hK hS0 ih hpp2 h hq
      · replace h := gw_ifn2 (gw_c2_eq _ _) h c_3
        obtain ⟨c_4, h⟩ := gw_ife h
        refine ⟨c_4, ?_⟩
        obtain ⟨r_5, e_7, h⟩ := gw_bnd h
        refine ⟨rfl, 0, 0, hcc, hss, ok_X10_hasBit e_7 ?_⟩
        intro hbr_5
        simp only [gt_nil, true_and, eq_self, gt_if, gt_aload_n, gt_rfk, gw_nth, gt_get_r, gt_get_i, gt_get_z, gt_iload_n, gt_ink, gt_v0, gt_v1, gt_v2, gt_v3, gt_v4, gt_v5, Option.toList, List.cons_append, List.nil_append, Nat.add_zero, ka0_0, ra0_0_1, ka0_8, kp2_0, rp2_0_0, kp2_1, lp2_1]
        refine ⟨fun c_9 => ?_, fun c_9 => ?_⟩
        · replace h := gw_ifp h c_9
          exact B_X3_unfold_47 hcc hss hK hS0 ih hpp2 h hq
        · replace h := gw_ifn h c_9
          obtain ⟨μ_11, e_12, h⟩ := gw_bnd h
          refine ⟨rfl, 0, 0, hcc, hss, ok_X8_drop (gw_sub hS0 8 8 (by decide +kernel)) e_12 ?_⟩
          simp only [gt_nil, true_and, eq_self, Option.toList, List.cons_append, List.nil_append, Nat.add_zero, ka0_0, ra0_0_1, ka0_8, kp2_0, rp2_0_0, kp2_1, lp2_1]
          exact B_X3_unfold_47 hcc hss hK hS0 ih hpp2 h hq
theorem ok_X3_unfold {l : Launch} {x : gw_C} {d : Nat} {S : gw_S} {Q : Option Value → gw_S → gw_M → Prop} {v1 : Int32} {a0 : Nat} {n0 : Nat} {μ : gw_M} {μ'} (hS0 : gw_sh S 3 a0) (h : F_X3_unfold n0 a0 v1 μ = some μ') (hq : Q none S μ') : gw_ok l x (d + 2) sgX3_unfold 0 0 [.ref a0, .int v1] S μ Q := by
  refine gw_ok_of stX3_unfold (lv0 := [.ref a0, .int v1, .retAddr 0, .retAddr 0]) (Nat.le_of_ble_eq_true rfl) rfl rfl ?_
  intro K hK
  have hcc : 0 ≤ 0 := Nat.zero_le _
  have hss : 0 ≤ 0 := Nat.zero_le _
  have ka0_0 : gw_kd S a0 = 3 := (hS0 0 _ rfl).1
  unfold F_X3_unfold at h
  refine hK _ _ _ _ _ _ _ ?_
  rw [fdX3_unfold_0]
  simp only [gt_nil, true_and, eq_self, gt_aload_n, gt_rfk, gw_nth, gt_v0, gt_v1, gt_v2, gt_v3, gt_v4, gt_v5, gt_get_r, gt_get_i, gt_get_z, gt_astore_n, gw_set, gt_iconst, gt_istore_n, bkX3_unfold_0, ka0_0]
  obtain ⟨r_1, e_3, h⟩ := gw_bnd h
  refine ⟨rfl, 0, 0, hcc, hss, ok_X3_inHand hS0 e_3 ?_⟩
  intro hsr_1
  have kr_1_0 : gw_kd S r_1 = 1 := (hsr_1 0 _ rfl).1
  have rr_1_0_2 : gw_rf S r_1 2 = r_1 + 11 := (hsr_1 0 _ rfl).2.2 (2, 11) (by decide)
  simp only [gt_nil, true_and, eq_self, gt_get_r, gt_get_i, gt_get_z, gt_astore_n, gw_set, gt_iconst, gt_istore_n, Option.toList, List.cons_append, List.nil_append, Nat.add_zero, ka0_0, kr_1_0, rr_1_0_2]
  exact B_X3_unfold_10 hcc hss hK hS0 (gw_sub hsr_1 8 11 (by decide +kernel)) h hq
def F_X4_tell (n0 : Nat) (a0 : Nat) (v1 : Int32) (v2 : Int32) (v3 : Int32) (μ : gw_M) : Option (gw_M) := (F_X8_put n0 (a0 + 1) v1 v2 v3 μ).bind (fun (μ_2 : gw_M) => gw_let (gw_up μ_2 a0 3 ((μ_2 a0 3) &&& (((1 : Int32) <<< (v1 &&& 31)) ^^^ ((-1) : Int32)))) (fun (μ_5 : gw_M) => (if 0 ≤ v1 ∧ v1.toNatClampNeg < 16 then gw_let (gw_up μ_5 (a0 + 6) v1.toNatClampNeg (-1)) (fun (μ_7 : gw_M) => some μ_7) else none)))
theorem ok_X4_tell {l : Launch} {x : gw_C} {d : Nat} {S : gw_S} {Q : Option Value → gw_S → gw_M → Prop} {v1 v2 v3 : Int32} {a0 : Nat} {n0 : Nat} {μ : gw_M} {μ'} (hS0 : gw_sh S 4 a0) (h : F_X4_tell n0 a0 v1 v2 v3 μ = some μ') (hq : Q none S μ') : gw_ok l x (d + 2) sgX4_tell 0 0 [.ref a0, .int v1, .int v2, .int v3] S μ Q := by
  refine gw_ok_of stX4_tell (lv0 := [.ref a0, .int v1, .int v2, .int v3]) (Nat.le_of_ble_eq_true rfl) rfl rfl ?_
  intro K hK
  have hcc : 0 ≤ 0 := Nat.zero_le _
  have hss : 0 ≤ 0 := Nat.zero_le _
  have ka0_0 : gw_kd S a0 = 4 := (hS0 0 _ rfl).1
  have ra0_0_0 : gw_rf S a0 0 = a0 + 1 := (hS0 0 _ rfl).2.2 (0, 1) (by decide)
  have ra0_0_2 : gw_rf S a0 2 = a0 + 6 := (hS0 0 _ rfl).2.2 (2, 6) (by decide)
  have ka0_1 : gw_kd S (a0 + 1) = 8 := (hS0 1 _ rfl).1
  have ka0_6 : gw_kd S (a0 + 6) = 12 := (hS0 6 _ rfl).1
  have la0_6 : gw_ln S (a0 + 6) = 16 := (hS0 6 _ rfl).2.1
  unfold F_X4_tell at h
  refine hK _ _ _ _ _ _ _ ?_
  rw [fdX4_tell_0]
  simp only [gt_nil, true_and, eq_self, gt_aload_n, gt_rfk, gw_nth, gt_get_r, gt_get_i, gt_get_z, gt_iload_n, gt_ink, gt_v0, gt_v1, gt_v2, gt_v3, gt_v4, gt_v5, gt_dup_i, gt_dup_r, gt_iconst, gt_ishl, gt_ixor, gt_iand, gt_put_i, gt_putz, gt_iastore, gt_vret, bkX4_tell_0, ka0_0, ra0_0_0, ra0_0_2, ka0_1, ka0_6, la0_6]
  obtain ⟨μ_2, e_3, h⟩ := gw_bnd h
  refine ⟨rfl, 0, 0, hcc, hss, ok_X8_put (gw_sub hS0 8 1 (by decide +kernel)) e_3 ?_⟩
  simp only [gt_nil, true_and, eq_self, gt_aload_n, gt_rfk, gw_nth, gt_dup_i, gt_dup_r, gt_get_r, gt_get_i, gt_get_z, gt_iconst, gt_iload_n, gt_ink, gt_ishl, gt_ixor, gt_iand, gt_put_i, gt_putz, gt_iastore, gt_vret, Option.toList, List.cons_append, List.nil_append, Nat.add_zero, ka0_0, ra0_0_0, ra0_0_2, ka0_1, ka0_6, la0_6]
  obtain ⟨μ_5, hμ_5, h⟩ := gw_lt h
  try rw [← hμ_5]
  obtain ⟨c_6, h⟩ := gw_ife h
  refine ⟨c_6, ?_⟩
  obtain ⟨μ_7, hμ_7, h⟩ := gw_lt h
  try rw [← hμ_7]
  obtain rfl := gw_inj1 h
  exact ⟨hcc, hss, hq⟩
def F_X3_tellEntry (n0 : Nat) (a0 : Nat) (v1 : Int32) (v2 : Int32) (v3 : Int32) (v4 : Int32) (μ : gw_M) : Option (gw_M) := (if ¬ v1 = 0 then (if ¬ v1 = 1 then (F_X4_tell n0 (a0 + 1) v2 v3 v4 μ).bind (fun (μ_4 : gw_M) => (F_X3_unfold n0 a0 ((1 : Int32) <<< (v2 &&& 31)) μ_4).bind (fun (μ_8 : gw_M) => some μ_8)) else (F_X3_tellInner n0 a0 v2 v3 v4 μ).bind (fun (μ_12 : gw_M) => some μ_12)) else (F_X3_inHand n0 a0 μ).bind (fun (r_15 : Nat) => (F_X8_put n0 (r_15 + 7) v2 v3 v4 μ).bind (fun (μ_20 : gw_M) => some μ_20)))
theorem ok_X3_tellEntry {l : Launch} {x : gw_C} {d : Nat} {S : gw_S} {Q : Option Value → gw_S → gw_M → Prop} {v1 v2 v3 v4 : Int32} {a0 : Nat} {n0 : Nat} {μ : gw_M} {μ'} (hS0 : gw_sh S 3 a0) (h : F_X3_tellEntry n0 a0 v1 v2 v3 v4 μ = some μ') (hq : Q none S μ') : gw_ok l x (d + 3) sgX3_tellEntry 0 0 [.ref a0, .int v1, .int v2, .int v3, .int v4] S μ Q := by
  refine gw_ok_of stX3_tellEntry (lv0 := [.ref a0, .int v1, .int v2, .int v3, .int v4]) (Nat.le_of_ble_eq_true rfl) rfl rfl ?_
  intro K hK
  have hcc : 0 ≤ 0 := Nat.zero_le _
  have hss : 0 ≤ 0 := Nat.zero_le _
  have ka0_0 : gw_kd S a0 = 3 := (hS0 0 _ rfl).1
  have ra0_0_0 : gw_rf S a0 0 = a0 + 1 := (hS0 0 _ rfl).2.2 (0, 1) (by decide)
  have ka0_1 : gw_kd S (a0 + 1) = 4 := (hS0 1 _ rfl).1
  unfold F_X3_tellEntry at h
  refine hK _ _ _ _ _ _ _ ?_
  rw [fdX3_tellEntry_0]
  simp only [gt_nil, true_and, eq_self, gt_iload_n, gt_ink, gw_nth, gt_if, gt_aload_n, gt_rfk, gt_v0, gt_v1, gt_v2, gt_v3, gt_v4, gt_v5, gt_get_r, gt_get_i, gt_get_z, gt_iload, gt_goto, bkX3_tellEntry_0, ka0_0, ra0_0_0, ka0_1]
  refine ⟨fun c_1 => ?_, fun c_1 => ?_⟩
  · replace h := gw_ifp h c_1
    refine hK _ _ _ _ _ _ _ ?_
    rw [fdX3_tellEntry_21]
    simp only [gt_nil, true_and, eq_self, gt_iload_n, gt_ink, gw_nth, gt_iconst, gt_icmp, gt_aload_n, gt_rfk, gt_iload, gt_v0, gt_v1, gt_v2, gt_v3, gt_v4, gt_v5, gt_goto, bkX3_tellEntry_21, ka0_0, ra0_0_0, ka0_1]
    refine ⟨fun c_2 => ?_, fun c_2 => ?_⟩
    · replace h := gw_ifp2 (gw_c2_ne _ _) h c_2
      refine hK _ _ _ _ _ _ _ ?_
      rw [fdX3_tellEntry_37]
      simp only [gt_nil, true_and, eq_self, gt_aload_n, gt_rfk, gw_nth, gt_get_r, gt_get_i, gt_get_z, gt_iload_n, gt_ink, gt_iload, gt_v0, gt_v1, gt_v2, gt_v3, gt_v4, gt_v5, gt_iconst, gt_ishl, bkX3_tellEntry_37, ka0_0, ra0_0_0, ka0_1]
      obtain ⟨μ_4, e_5, h⟩ := gw_bnd h
      refine ⟨rfl, 0, 0, hcc, hss, ok_X4_tell (gw_sub hS0 4 1 (by decide +kernel)) e_5 ?_⟩
      simp only [gt_nil, true_and, eq_self, gt_aload_n, gt_rfk, gw_nth, gt_iconst, gt_iload_n, gt_ink, gt_ishl, gt_v0, gt_v1, gt_v2, gt_v3, gt_v4, gt_v5, Option.toList, List.cons_append, List.nil_append, Nat.add_zero, ka0_0, ra0_0_0, ka0_1]
      obtain ⟨μ_8, e_9, h⟩ := gw_bnd h
      refine ⟨rfl, 0, 0, hcc, hss, ok_X3_unfold hS0 e_9 ?_⟩
      simp only [gt_nil, true_and, eq_self, Option.toList, List.cons_append, List.nil_append, Nat.add_zero, ka0_0, ra0_0_0, ka0_1]
      refine hK _ _ _ _ _ _ _ ?_
      rw [fdX3_tellEntry_55]
      simp only [gt_nil, true_and, eq_self, gt_vret, bkX3_tellEntry_55, ka0_0, ra0_0_0, ka0_1]
      obtain rfl := gw_inj1 h
      exact ⟨hcc, hss, hq⟩
    · replace h := gw_ifn2 (gw_c2_ne _ _) h c_2
      obtain ⟨μ_12, e_13, h⟩ := gw_bnd h
      refine ⟨rfl, 0, 0, hcc, hss, ok_X3_tellInner hS0 e_13 ?_⟩
      simp only [gt_nil, true_and, eq_self, gt_goto, Option.toList, List.cons_append, List.nil_append, Nat.add_zero, ka0_0, ra0_0_0, ka0_1]
      refine hK _ _ _ _ _ _ _ ?_
      rw [fdX3_tellEntry_55]
      simp only [gt_nil, true_and, eq_self, gt_vret, bkX3_tellEntry_55, ka0_0, ra0_0_0, ka0_1]
      obtain rfl := gw_inj1 h
      exact ⟨hcc, hss, hq⟩
  · replace h := gw_ifn h c_1
    obtain ⟨r_15, e_17, h⟩ := gw_bnd h
    refine ⟨rfl, 0, 0, hcc, hss, ok_X3_inHand hS0 e_17 ?_⟩
    intro hsr_15
    have kr_15_0 : gw_kd S r_15 = 1 := (hsr_15 0 _ rfl).1
    have rr_15_0_1 : gw_rf S r_15 1 = r_15 + 7 := (hsr_15 0 _ rfl).2.2 (1, 7) (by decide)
    have kr_15_7 : gw_kd S (r_15 + 7) = 8 := (hsr_15 7 _ rfl).1
    simp only [gt_nil, true_and, eq_self, gt_get_r, gt_get_i, gt_get_z, gt_iload_n, gt_ink, gw_nth, gt_iload, gt_v0, gt_v1, gt_v2, gt_v3, gt_v4, gt_v5, gt_goto, Option.toList, List.cons_append, List.nil_append, Nat.add_zero, ka0_0, ra0_0_0, ka0_1, kr_15_0, rr_15_0_1, kr_15_7]
    obtain ⟨μ_20, e_21, h⟩ := gw_bnd h
    refine ⟨rfl, 0, 0, hcc, hss, ok_X8_put (gw_sub hsr_15 8 7 (by decide +kernel)) e_21 ?_⟩
    simp only [gt_nil, true_and, eq_self, gt_goto, Option.toList, List.cons_append, List.nil_append, Nat.add_zero, ka0_0, ra0_0_0, ka0_1, kr_15_0, rr_15_0_1, kr_15_7]
    refine hK _ _ _ _ _ _ _ ?_
    rw [fdX3_tellEntry_55]
    simp only [gt_nil, true_and, eq_self, gt_vret, bkX3_tellEntry_55, ka0_0, ra0_0_0, ka0_1, kr_15_0, rr_15_0_1, kr_15_7]
    obtain rfl := gw_inj1 h
    exact ⟨hcc, hss, hq⟩
def F_X4_untell (n0 : Nat) (a0 : Nat) (v1 : Int32) (μ : gw_M) : Option (gw_M) := (F_X8_drop n0 (a0 + 1) v1 μ).bind (fun (μ_2 : gw_M) => gw_let (gw_up μ_2 a0 3 ((μ_2 a0 3) &&& (((1 : Int32) <<< (v1 &&& 31)) ^^^ ((-1) : Int32)))) (fun (μ_5 : gw_M) => (if 0 ≤ v1 ∧ v1.toNatClampNeg < 16 then gw_let (gw_up μ_5 (a0 + 6) v1.toNatClampNeg (-1)) (fun (μ_7 : gw_M) => some μ_7) else none)))
theorem ok_X4_untell {l : Launch} {x : gw_C} {d : Nat} {S : gw_S} {Q : Option Value → gw_S → gw_M → Prop} {v1 : Int32} {a0 : Nat} {n0 : Nat} {μ : gw_M} {μ'} (hS0 : gw_sh S 4 a0) (h : F_X4_untell n0 a0 v1 μ = some μ') (hq : Q none S μ') : gw_ok l x (d + 2) sgX4_untell 0 0 [.ref a0, .int v1] S μ Q := by
  refine gw_ok_of stX4_untell (lv0 := [.ref a0, .int v1]) (Nat.le_of_ble_eq_true rfl) rfl rfl ?_
  intro K hK
  have hcc : 0 ≤ 0 := Nat.zero_le _
  have hss : 0 ≤ 0 := Nat.zero_le _
  have ka0_0 : gw_kd S a0 = 4 := (hS0 0 _ rfl).1
  have ra0_0_0 : gw_rf S a0 0 = a0 + 1 := (hS0 0 _ rfl).2.2 (0, 1) (by decide)
  have ra0_0_2 : gw_rf S a0 2 = a0 + 6 := (hS0 0 _ rfl).2.2 (2, 6) (by decide)
  have ka0_1 : gw_kd S (a0 + 1) = 8 := (hS0 1 _ rfl).1
  have ka0_6 : gw_kd S (a0 + 6) = 12 := (hS0 6 _ rfl).1
  have la0_6 : gw_ln S (a0 + 6) = 16 := (hS0 6 _ rfl).2.1
  unfold F_X4_untell at h
  refine hK _ _ _ _ _ _ _ ?_
  rw [fdX4_untell_0]
  simp only [gt_nil, true_and, eq_self, gt_aload_n, gt_rfk, gw_nth, gt_get_r, gt_get_i, gt_get_z, gt_iload_n, gt_ink, gt_v0, gt_v1, gt_v2, gt_v3, gt_v4, gt_v5, gt_dup_i, gt_dup_r, gt_iconst, gt_ishl, gt_ixor, gt_iand, gt_put_i, gt_putz, gt_iastore, gt_vret, bkX4_untell_0, ka0_0, ra0_0_0, ra0_0_2, ka0_1, ka0_6, la0_6]
  obtain ⟨μ_2, e_3, h⟩ := gw_bnd h
  refine ⟨rfl, 0, 0, hcc, hss, ok_X8_drop (gw_sub hS0 8 1 (by decide +kernel)) e_3 ?_⟩
  simp only [gt_nil, true_and, eq_self, gt_aload_n, gt_rfk, gw_nth, gt_dup_i, gt_dup_r, gt_get_r, gt_get_i, gt_get_z, gt_iconst, gt_iload_n, gt_ink, gt_ishl, gt_ixor, gt_iand, gt_put_i, gt_putz, gt_iastore, gt_vret, Option.toList, List.cons_append, List.nil_append, Nat.add_zero, ka0_0, ra0_0_0, ra0_0_2, ka0_1, ka0_6, la0_6]
  obtain ⟨μ_5, hμ_5, h⟩ := gw_lt h
  try rw [← hμ_5]
  obtain ⟨c_6, h⟩ := gw_ife h
  refine ⟨c_6, ?_⟩
  obtain ⟨μ_7, hμ_7, h⟩ := gw_lt h
  try rw [← hμ_7]
  obtain rfl := gw_inj1 h
  exact ⟨hcc, hss, hq⟩
def F_X3_dropEntry (n0 : Nat) (a0 : Nat) (v1 : Int32) (v2 : Int32) (μ : gw_M) : Option (gw_M) := (if ¬ v1 = 0 then (if ¬ v1 = 1 then (F_X4_untell n0 (a0 + 1) v2 μ).bind (fun (μ_4 : gw_M) => (F_X3_unfold n0 a0 ((1 : Int32) <<< (v2 &&& 31)) μ_4).bind (fun (μ_8 : gw_M) => some μ_8)) else (F_X3_inHand n0 a0 μ).bind (fun (r_11 : Nat) => (F_X8_drop n0 (r_11 + 11) v2 μ).bind (fun (μ_16 : gw_M) => (F_X8_drop n0 (a0 + 8) v2 μ_16).bind (fun (μ_20 : gw_M) => some μ_20)))) else (F_X3_inHand n0 a0 μ).bind (fun (r_23 : Nat) => (F_X8_drop n0 (r_23 + 7) v2 μ).bind (fun (μ_28 : gw_M) => some μ_28)))
theorem ok_X3_dropEntry {l : Launch} {x : gw_C} {d : Nat} {S : gw_S} {Q : Option Value → gw_S → gw_M → Prop} {v1 v2 : Int32} {a0 : Nat} {n0 : Nat} {μ : gw_M} {μ'} (hS0 : gw_sh S 3 a0) (h : F_X3_dropEntry n0 a0 v1 v2 μ = some μ') (hq : Q none S μ') : gw_ok l x (d + 3) sgX3_dropEntry 0 0 [.ref a0, .int v1, .int v2] S μ Q := by
  refine gw_ok_of stX3_dropEntry (lv0 := [.ref a0, .int v1, .int v2]) (Nat.le_of_ble_eq_true rfl) rfl rfl ?_
  intro K hK
  have hcc : 0 ≤ 0 := Nat.zero_le _
  have hss : 0 ≤ 0 := Nat.zero_le _
  have ka0_0 : gw_kd S a0 = 3 := (hS0 0 _ rfl).1
  have ra0_0_0 : gw_rf S a0 0 = a0 + 1 := (hS0 0 _ rfl).2.2 (0, 1) (by decide)
  have ra0_0_1 : gw_rf S a0 1 = a0 + 8 := (hS0 0 _ rfl).2.2 (1, 8) (by decide)
  have ka0_1 : gw_kd S (a0 + 1) = 4 := (hS0 1 _ rfl).1
  have ka0_8 : gw_kd S (a0 + 8) = 8 := (hS0 8 _ rfl).1
  unfold F_X3_dropEntry at h
  refine hK _ _ _ _ _ _ _ ?_
  rw [fdX3_dropEntry_0]
  simp only [gt_nil, true_and, eq_self, gt_iload_n, gt_ink, gw_nth, gt_if, gt_aload_n, gt_rfk, gt_v0, gt_v1, gt_v2, gt_v3, gt_v4, gt_v5, gt_get_r, gt_get_i, gt_get_z, gt_goto, bkX3_dropEntry_0, ka0_0, ra0_0_0, ra0_0_1, ka0_1, ka0_8]
  refine ⟨fun c_1 => ?_, fun c_1 => ?_⟩
  · replace h := gw_ifp h c_1
    refine hK _ _ _ _ _ _ _ ?_
    rw [fdX3_dropEntry_18]
    simp only [gt_nil, true_and, eq_self, gt_iload_n, gt_ink, gw_nth, gt_iconst, gt_icmp, gt_aload_n, gt_rfk, gt_v0, gt_v1, gt_v2, gt_v3, gt_v4, gt_v5, gt_get_r, gt_get_i, gt_get_z, gt_goto, bkX3_dropEntry_18, ka0_0, ra0_0_0, ra0_0_1, ka0_1, ka0_8]
    refine ⟨fun c_2 => ?_, fun c_2 => ?_⟩
    · replace h := gw_ifp2 (gw_c2_ne _ _) h c_2
      refine hK _ _ _ _ _ _ _ ?_
      rw [fdX3_dropEntry_45]
      simp only [gt_nil, true_and, eq_self, gt_aload_n, gt_rfk, gw_nth, gt_get_r, gt_get_i, gt_get_z, gt_iload_n, gt_ink, gt_v0, gt_v1, gt_v2, gt_v3, gt_v4, gt_v5, gt_iconst, gt_ishl, bkX3_dropEntry_45, ka0_0, ra0_0_0, ra0_0_1, ka0_1, ka0_8]
      obtain ⟨μ_4, e_5, h⟩ := gw_bnd h
      refine ⟨rfl, 0, 0, hcc, hss, ok_X4_untell (gw_sub hS0 4 1 (by decide +kernel)) e_5 ?_⟩
      simp only [gt_nil, true_and, eq_self, gt_aload_n, gt_rfk, gw_nth, gt_iconst, gt_iload_n, gt_ink, gt_ishl, gt_v0, gt_v1, gt_v2, gt_v3, gt_v4, gt_v5, Option.toList, List.cons_append, List.nil_append, Nat.add_zero, ka0_0, ra0_0_0, ra0_0_1, ka0_1, ka0_8]
      obtain ⟨μ_8, e_9, h⟩ := gw_bnd h
      refine ⟨rfl, 0, 0, hcc, hss, ok_X3_unfold hS0 e_9 ?_⟩
      simp only [gt_nil, true_and, eq_self, Option.toList, List.cons_append, List.nil_append, Nat.add_zero, ka0_0, ra0_0_0, ra0_0_1, ka0_1, ka0_8]
      refine hK _ _ _ _ _ _ _ ?_
      rw [fdX3_dropEntry_60]
      simp only [gt_nil, true_and, eq_self, gt_vret, bkX3_dropEntry_60, ka0_0, ra0_0_0, ra0_0_1, ka0_1, ka0_8]
      obtain rfl := gw_inj1 h
      exact ⟨hcc, hss, hq⟩
    · replace h := gw_ifn2 (gw_c2_ne _ _) h c_2
      obtain ⟨r_11, e_13, h⟩ := gw_bnd h
      refine ⟨rfl, 0, 0, hcc, hss, ok_X3_inHand hS0 e_13 ?_⟩
      intro hsr_11
      have kr_11_0 : gw_kd S r_11 = 1 := (hsr_11 0 _ rfl).1
      have rr_11_0_2 : gw_rf S r_11 2 = r_11 + 11 := (hsr_11 0 _ rfl).2.2 (2, 11) (by decide)
      have kr_11_11 : gw_kd S (r_11 + 11) = 8 := (hsr_11 11 _ rfl).1
      simp only [gt_nil, true_and, eq_self, gt_get_r, gt_get_i, gt_get_z, gt_iload_n, gt_ink, gw_nth, gt_v0, gt_v1, gt_v2, gt_v3, gt_v4, gt_v5, gt_aload_n, gt_rfk, gt_goto, Option.toList, List.cons_append, List.nil_append, Nat.add_zero, ka0_0, ra0_0_0, ra0_0_1, ka0_1, ka0_8, kr_11_0, rr_11_0_2, kr_11_11]
      obtain ⟨μ_16, e_17, h⟩ := gw_bnd h
      refine ⟨rfl, 0, 0, hcc, hss, ok_X8_drop (gw_sub hsr_11 8 11 (by decide +kernel)) e_17 ?_⟩
      simp only [gt_nil, true_and, eq_self, gt_aload_n, gt_rfk, gw_nth, gt_get_r, gt_get_i, gt_get_z, gt_iload_n, gt_ink, gt_v0, gt_v1, gt_v2, gt_v3, gt_v4, gt_v5, gt_goto, Option.toList, List.cons_append, List.nil_append, Nat.add_zero, ka0_0, ra0_0_0, ra0_0_1, ka0_1, ka0_8, kr_11_0, rr_11_0_2, kr_11_11]
      obtain ⟨μ_20, e_21, h⟩ := gw_bnd h
      refine ⟨rfl, 0, 0, hcc, hss, ok_X8_drop (gw_sub hS0 8 8 (by decide +kernel)) e_21 ?_⟩
      simp only [gt_nil, true_and, eq_self, gt_goto, Option.toList, List.cons_append, List.nil_append, Nat.add_zero, ka0_0, ra0_0_0, ra0_0_1, ka0_1, ka0_8, kr_11_0, rr_11_0_2, kr_11_11]
      refine hK _ _ _ _ _ _ _ ?_
      rw [fdX3_dropEntry_60]
      simp only [gt_nil, true_and, eq_self, gt_vret, bkX3_dropEntry_60, ka0_0, ra0_0_0, ra0_0_1, ka0_1, ka0_8, kr_11_0, rr_11_0_2, kr_11_11]
      obtain rfl := gw_inj1 h
      exact ⟨hcc, hss, hq⟩
  · replace h := gw_ifn h c_1
    obtain ⟨r_23, e_25, h⟩ := gw_bnd h
    refine ⟨rfl, 0, 0, hcc, hss, ok_X3_inHand hS0 e_25 ?_⟩
    intro hsr_23
    have kr_23_0 : gw_kd S r_23 = 1 := (hsr_23 0 _ rfl).1
    have rr_23_0_1 : gw_rf S r_23 1 = r_23 + 7 := (hsr_23 0 _ rfl).2.2 (1, 7) (by decide)
    have kr_23_7 : gw_kd S (r_23 + 7) = 8 := (hsr_23 7 _ rfl).1
    simp only [gt_nil, true_and, eq_self, gt_get_r, gt_get_i, gt_get_z, gt_iload_n, gt_ink, gw_nth, gt_v0, gt_v1, gt_v2, gt_v3, gt_v4, gt_v5, gt_goto, Option.toList, List.cons_append, List.nil_append, Nat.add_zero, ka0_0, ra0_0_0, ra0_0_1, ka0_1, ka0_8, kr_23_0, rr_23_0_1, kr_23_7]
    obtain ⟨μ_28, e_29, h⟩ := gw_bnd h
    refine ⟨rfl, 0, 0, hcc, hss, ok_X8_drop (gw_sub hsr_23 8 7 (by decide +kernel)) e_29 ?_⟩
    simp only [gt_nil, true_and, eq_self, gt_goto, Option.toList, List.cons_append, List.nil_append, Nat.add_zero, ka0_0, ra0_0_0, ra0_0_1, ka0_1, ka0_8, kr_23_0, rr_23_0_1, kr_23_7]
    refine hK _ _ _ _ _ _ _ ?_
    rw [fdX3_dropEntry_60]
    simp only [gt_nil, true_and, eq_self, gt_vret, bkX3_dropEntry_60, ka0_0, ra0_0_0, ra0_0_1, ka0_1, ka0_8, kr_23_0, rr_23_0_1, kr_23_7]
    obtain rfl := gw_inj1 h
    exact ⟨hcc, hss, hq⟩
def F_X8_eldest_42 (rec4 : Int32 → Int32 → gw_M → Option (Int32)) (n0 : Nat) (a0 : Nat) (v1 : Int32) (v2 : Int32) (μ : gw_M) : Option (Int32) := gw_let (v2 + 1) (fun (w_1 : Int32) => rec4 v1 w_1 μ)
def F_X8_eldest_40 (rec4 : Int32 → Int32 → gw_M → Option (Int32)) (n0 : Nat) (a0 : Nat) (v2 : Int32) (μ : gw_M) : Option (Int32) := F_X8_eldest_42 rec4 n0 a0 v2 v2 μ
def F_X8_eldest_4 (n0 : Nat) (a0 : Nat) : Nat → Int32 → Int32 → gw_M → Option (Int32)
  | 0, _, _, _ => none
  | n + 1, v1, v2, μ => (if 16 ≤ v2 then some v1 else (if 0 ≤ v2 ∧ v2.toNatClampNeg < 16 then (if (μ (a0 + 1) v2.toNatClampNeg) = (-1) then F_X8_eldest_42 (F_X8_eldest_4 n0 a0 n) n0 a0 v1 v2 μ else (if v1 = (-1) then F_X8_eldest_40 (F_X8_eldest_4 n0 a0 n) n0 a0 v2 μ else (if 0 ≤ v2 ∧ v2.toNatClampNeg < 16 then (if 0 ≤ v1 ∧ v1.toNatClampNeg < 16 then (if (μ (a0 + 3) v1.toNatClampNeg) ≤ (μ (a0 + 3) v2.toNatClampNeg) then F_X8_eldest_42 (F_X8_eldest_4 n0 a0 n) n0 a0 v1 v2 μ else F_X8_eldest_40 (F_X8_eldest_4 n0 a0 n) n0 a0 v2 μ) else none) else none))) else none))
def F_X8_eldest (n0 : Nat) (a0 : Nat) (μ : gw_M) : Option (Int32) := F_X8_eldest_4 n0 a0 n0 (-1) 0 μ
theorem B_X8_eldest_42 {l : Launch} {x : gw_C} {d : Nat} {S : gw_S} {Q : Option Value → gw_S → gw_M → Prop} {K : Nat → gw_Kt} {mc ms cc ss : Nat} (hcc : cc ≤ mc) (hss : ss ≤ ms) (hK : gw_cl l x (d + 0) mc ms bsX8_eldest Q K) {a0 : Nat} (hS0 : gw_sh S 8 a0) {rec4 : Int32 → Int32 → gw_M → Option (Int32)} (hrec4 : ∀ {v1 v2} {μ : gw_M} {r}, rec4 v1 v2 μ = some r → Q (some (.int r)) S μ → K 4 [.ref a0, .int v1, .int v2] [] S μ cc ss) {n0 : Nat} {v1 v2} {μ : gw_M} {r} (h : F_X8_eldest_42 rec4 n0 a0 v1 v2 μ = some r) (hq : Q (some (.int r)) S μ) : K 42 [.ref a0, .int v1, .int v2] [] S μ cc ss := by
  unfold F_X8_eldest_42 at h
  refine hK _ _ _ _ _ _ _ ?_
  rw [fdX8_eldest_42]
  simp only [gt_nil, true_and, eq_self, gt_iinc, gt_ink, gw_nth, gw_set, gt_goto, bkX8_eldest_42]
  obtain ⟨w_1, hw_1, h⟩ := gw_lt h
  try rw [← hw_1]
  exact hrec4 h hq
theorem B_X8_eldest_40 {l : Launch} {x : gw_C} {d : Nat} {S : gw_S} {Q : Option Value → gw_S → gw_M → Prop} {K : Nat → gw_Kt} {mc ms cc ss : Nat} (hcc : cc ≤ mc) (hss : ss ≤ ms) (hK : gw_cl l x (d + 0) mc ms bsX8_eldest Q K) {a0 : Nat} (hS0 : gw_sh S 8 a0) {rec4 : Int32 → Int32 → gw_M → Option (Int32)} (hrec4 : ∀ {v1 v2} {μ : gw_M} {r}, rec4 v1 v2 μ = some r → Q (some (.int r)) S μ → K 4 [.ref a0, .int v1, .int v2] [] S μ cc ss) {n0 : Nat} {v2} {u1 : Value} {μ : gw_M} {r} (h : F_X8_eldest_40 rec4 n0 a0 v2 μ = some r) (hq : Q (some (.int r)) S μ) : K 40 [.ref a0, u1, .int v2] [] S μ cc ss := by
  unfold F_X8_eldest_40 at h
  refine hK _ _ _ _ _ _ _ ?_
  rw [fdX8_eldest_40]
  simp only [gt_nil, true_and, eq_self, gt_iload_n, gt_ink, gw_nth, gt_istore_n, gw_set, bkX8_eldest_40]
  exact B_X8_eldest_42 hcc hss hK hS0 hrec4 h hq
theorem B_X8_eldest_4 {l : Launch} {x : gw_C} {d : Nat} {S : gw_S} {Q : Option Value → gw_S → gw_M → Prop} {K : Nat → gw_Kt} {mc ms cc ss : Nat} (hcc : cc ≤ mc) (hss : ss ≤ ms) (hK : gw_cl l x (d + 0) mc ms bsX8_eldest Q K) {a0 : Nat} (hS0 : gw_sh S 8 a0) {n0 : Nat} : ∀ {n : Nat} {v1 v2} {μ : gw_M} {r}, F_X8_eldest_4 n0 a0 n v1 v2 μ = some r → Q (some (.int r)) S μ → K 4 [.ref a0, .int v1, .int v2] [] S μ cc ss := by
  have ka0_0 : gw_kd S a0 = 8 := (hS0 0 _ rfl).1
  have ra0_0_0 : gw_rf S a0 0 = a0 + 1 := (hS0 0 _ rfl).2.2 (0, 1) (by decide)
  have ra0_0_2 : gw_rf S a0 2 = a0 + 3 := (hS0 0 _ rfl).2.2 (2, 3) (by decide)
  have ka0_1 : gw_kd S (a0 + 1) = 12 := (hS0 1 _ rfl).1
  have la0_1 : gw_ln S (a0 + 1) = 16 := (hS0 1 _ rfl).2.1
  have ka0_3 : gw_kd S (a0 + 3) = 12 := (hS0 3 _ rfl).1
  have la0_3 : gw_ln S (a0 + 3) = 16 := (hS0 3 _ rfl).2.1
  intro n
  induction n with
  | zero => intro v1 v2 μ r h hq; simp [F_X8_eldest_4] at h
  | succ n ih =>
    intro v1 v2 μ r h hq
    simp only [F_X8_eldest_4] at h
    refine hK _ _ _ _ _ _ _ ?_
    rw [fdX8_eldest_4]
    simp only [gt_nil, true_and, eq_self, gt_iload_n, gt_ink, gw_nth, gt_bipush, gt_icmp, gt_aload_n, gt_rfk, gt_get_r, gt_get_i, gt_get_z, gt_iaload, gt_iconst, bkX8_eldest_4, ka0_0, ra0_0_0, ra0_0_2, ka0_1, la0_1, ka0_3, la0_3]
    refine ⟨fun c_1 => ?_, fun c_1 => ?_⟩
    · replace h := gw_ifp2 (gw_c2_ge _ _) h c_1
      refine hK _ _ _ _ _ _ _ ?_
      rw [fdX8_eldest_48]
      simp only [gt_nil, true_and, eq_self, gt_iload_n, gt_ink, gw_nth, gt_iret, gt_retz, bkX8_eldest_48, ka0_0, ra0_0_0, ra0_0_2, ka0_1, la0_1, ka0_3, la0_3]
      obtain rfl := gw_inj1 h
      exact ⟨hcc, hss, hq⟩
    · replace h := gw_ifn2 (gw_c2_ge _ _) h c_1
      obtain ⟨c_2, h⟩ := gw_ife h
      refine ⟨c_2, ?_⟩
      refine ⟨fun c_3 => ?_, fun c_3 => ?_⟩
      · replace h := gw_ifp2 (gw_c2_eq _ _) h c_3
        exact B_X8_eldest_42 hcc hss hK hS0 ih h hq
      · replace h := gw_ifn2 (gw_c2_eq _ _) h c_3
        refine ⟨fun c_4 => ?_, fun c_4 => ?_⟩
        · replace h := gw_ifp2 (gw_c2_eq _ _) h c_4
          exact B_X8_eldest_40 hcc hss hK hS0 ih h hq
        · replace h := gw_ifn2 (gw_c2_eq _ _) h c_4
          obtain ⟨c_5, h⟩ := gw_ife h
          refine ⟨c_5, ?_⟩
          obtain ⟨c_6, h⟩ := gw_ife h
          refine ⟨c_6, ?_⟩
          refine ⟨fun c_7 => ?_, fun c_7 => ?_⟩
          · replace h := gw_ifp2 (gw_c2_ge _ _) h c_7
            exact B_X8_eldest_42 hcc hss hK hS0 ih h hq
          · replace h := gw_ifn2 (gw_c2_ge _ _) h c_7
            exact B_X8_eldest_40 hcc hss hK hS0 ih h hq
theorem ok_X8_eldest {l : Launch} {x : gw_C} {d : Nat} {S : gw_S} {Q : Option Value → gw_S → gw_M → Prop} {a0 : Nat} {n0 : Nat} {μ : gw_M} {r} (hS0 : gw_sh S 8 a0) (h : F_X8_eldest n0 a0 μ = some r) (hq : Q (some (.int r)) S μ) : gw_ok l x (d + 1) sgX8_eldest 0 0 [.ref a0] S μ Q := by
  refine gw_ok_of stX8_eldest (lv0 := [.ref a0, .retAddr 0, .retAddr 0]) (Nat.le_of_ble_eq_true rfl) rfl rfl ?_
  intro K hK
  have hcc : 0 ≤ 0 := Nat.zero_le _
  have hss : 0 ≤ 0 := Nat.zero_le _
  unfold F_X8_eldest at h
  refine hK _ _ _ _ _ _ _ ?_
  rw [fdX8_eldest_0]
  simp only [gt_nil, true_and, eq_self, gt_iconst, gt_istore_n, gw_set, bkX8_eldest_0]
  exact B_X8_eldest_4 hcc hss hK hS0 h hq
def F_X8_dropEldest (n0 : Nat) (a0 : Nat) (μ : gw_M) : Option (gw_M) := (F_X8_eldest n0 a0 μ).bind (fun (r_1 : Int32) => (if r_1 = (-1) then some μ else (F_X8_drop n0 a0 r_1 μ).bind (fun (μ_7 : gw_M) => some μ_7)))
theorem ok_X8_dropEldest {l : Launch} {x : gw_C} {d : Nat} {S : gw_S} {Q : Option Value → gw_S → gw_M → Prop} {a0 : Nat} {n0 : Nat} {μ : gw_M} {μ'} (hS0 : gw_sh S 8 a0) (h : F_X8_dropEldest n0 a0 μ = some μ') (hq : Q none S μ') : gw_ok l x (d + 2) sgX8_dropEldest 0 0 [.ref a0] S μ Q := by
  refine gw_ok_of stX8_dropEldest (lv0 := [.ref a0, .retAddr 0]) (Nat.le_of_ble_eq_true rfl) rfl rfl ?_
  intro K hK
  have hcc : 0 ≤ 0 := Nat.zero_le _
  have hss : 0 ≤ 0 := Nat.zero_le _
  have ka0_0 : gw_kd S a0 = 8 := (hS0 0 _ rfl).1
  unfold F_X8_dropEldest at h
  refine hK _ _ _ _ _ _ _ ?_
  rw [fdX8_dropEldest_0]
  simp only [gt_nil, true_and, eq_self, gt_aload_n, gt_rfk, gw_nth, gt_v0, gt_v1, gt_v2, gt_v3, gt_v4, gt_v5, gt_istore_n, gw_set, gt_iload_n, gt_ink, gt_iconst, gt_icmp, bkX8_dropEldest_0, ka0_0]
  obtain ⟨r_1, e_3, h⟩ := gw_bnd h
  refine ⟨rfl, 0, 0, hcc, hss, ok_X8_eldest hS0 e_3 ?_⟩
  simp only [gt_nil, true_and, eq_self, gt_istore_n, gw_set, gt_iload_n, gt_ink, gw_nth, gt_iconst, gt_icmp, gt_aload_n, gt_rfk, gt_v0, gt_v1, gt_v2, gt_v3, gt_v4, gt_v5, Option.toList, List.cons_append, List.nil_append, Nat.add_zero, ka0_0]
  refine ⟨fun c_5 => ?_, fun c_5 => ?_⟩
  · replace h := gw_ifp2 (gw_c2_eq _ _) h c_5
    refine hK _ _ _ _ _ _ _ ?_
    rw [fdX8_dropEldest_15]
    simp only [gt_nil, true_and, eq_self, gt_vret, bkX8_dropEldest_15, ka0_0]
    obtain rfl := gw_inj1 h
    exact ⟨hcc, hss, hq⟩
  · replace h := gw_ifn2 (gw_c2_eq _ _) h c_5
    obtain ⟨μ_7, e_8, h⟩ := gw_bnd h
    refine ⟨rfl, 0, 0, hcc, hss, ok_X8_drop hS0 e_8 ?_⟩
    simp only [gt_nil, true_and, eq_self, Option.toList, List.cons_append, List.nil_append, Nat.add_zero, ka0_0]
    refine hK _ _ _ _ _ _ _ ?_
    rw [fdX8_dropEldest_15]
    simp only [gt_nil, true_and, eq_self, gt_vret, bkX8_dropEldest_15, ka0_0]
    obtain rfl := gw_inj1 h
    exact ⟨hcc, hss, hq⟩
def F_X3_makeRoom_18 (n0 : Nat) (a0 : Nat) : Nat → Int32 → gw_M → Option (gw_M)
  | 0, _, _ => none
  | n + 1, v2, μ => (if v2 ≤ 0 then some μ else (F_X8_dropEldest n0 (a0 + 8) μ).bind (fun (μ_3 : gw_M) => gw_let (v2 + (-1)) (fun (w_6 : Int32) => F_X3_makeRoom_18 n0 a0 n w_6 μ_3)))
def F_X3_makeRoom (n0 : Nat) (a0 : Nat) (v1 : Int32) (μ : gw_M) : Option (gw_M) := gw_let (gw_up μ a0 2 v1) (fun (μ_1 : gw_M) => (F_X8_size n0 (a0 + 8) μ_1).bind (fun (r_2 : Int32) => gw_let ((r_2 - (μ_1 a0 2))) (fun (w_6 : Int32) => F_X3_makeRoom_18 n0 a0 n0 w_6 μ_1)))
theorem B_X3_makeRoom_18 {l : Launch} {x : gw_C} {d : Nat} {S : gw_S} {Q : Option Value → gw_S → gw_M → Prop} {K : Nat → gw_Kt} {mc ms cc ss : Nat} (hcc : cc ≤ mc) (hss : ss ≤ ms) (hK : gw_cl l x (d + 2) mc ms bsX3_makeRoom Q K) {a0 : Nat} (hS0 : gw_sh S 3 a0) {n0 : Nat} : ∀ {n : Nat} {v2} {u1 : Value} {μ : gw_M} {μ'}, F_X3_makeRoom_18 n0 a0 n v2 μ = some μ' → Q none S μ' → K 18 [.ref a0, u1, .int v2] [] S μ cc ss := by
  have ka0_0 : gw_kd S a0 = 3 := (hS0 0 _ rfl).1
  have ra0_0_1 : gw_rf S a0 1 = a0 + 8 := (hS0 0 _ rfl).2.2 (1, 8) (by decide)
  have ka0_8 : gw_kd S (a0 + 8) = 8 := (hS0 8 _ rfl).1
  intro n
  induction n with
  | zero => intro v2 u1 μ μ' h hq; simp [F_X3_makeRoom_18] at h
  | succ n ih =>
    intro v2 u1 μ μ' h hq
    simp only [F_X3_makeRoom_18] at h
    refine hK _ _ _ _ _ _ _ ?_
    rw [fdX3_makeRoom_18]
    simp only [gt_nil, true_and, eq_self, gt_iload_n, gt_ink, gw_nth, gt_if, gt_aload_n, gt_rfk, gt_get_r, gt_get_i, gt_get_z, gt_v0, gt_v1, gt_v2, gt_v3, gt_v4, gt_v5, gt_iinc, gw_set, gt_goto, bkX3_makeRoom_18, ka0_0, ra0_0_1, ka0_8]
    refine ⟨fun c_1 => ?_, fun c_1 => ?_⟩
    · replace h := gw_ifp h c_1
      refine hK _ _ _ _ _ _ _ ?_
      rw [fdX3_makeRoom_35]
      simp only [gt_nil, true_and, eq_self, gt_vret, bkX3_makeRoom_35, ka0_0, ra0_0_1, ka0_8]
      obtain rfl := gw_inj1 h
      exact ⟨hcc, hss, hq⟩
    · replace h := gw_ifn h c_1
      obtain ⟨μ_3, e_4, h⟩ := gw_bnd h
      refine ⟨rfl, 0, 0, hcc, hss, ok_X8_dropEldest (gw_sub hS0 8 8 (by decide +kernel)) e_4 ?_⟩
      simp only [gt_nil, true_and, eq_self, gt_iinc, gt_ink, gw_nth, gw_set, gt_goto, Option.toList, List.cons_append, List.nil_append, Nat.add_zero, ka0_0, ra0_0_1, ka0_8]
      obtain ⟨w_6, hw_6, h⟩ := gw_lt h
      try rw [← hw_6]
      exact ih h hq
theorem ok_X3_makeRoom {l : Launch} {x : gw_C} {d : Nat} {S : gw_S} {Q : Option Value → gw_S → gw_M → Prop} {v1 : Int32} {a0 : Nat} {n0 : Nat} {μ : gw_M} {μ'} (hS0 : gw_sh S 3 a0) (h : F_X3_makeRoom n0 a0 v1 μ = some μ') (hq : Q none S μ') : gw_ok l x (d + 3) sgX3_makeRoom 0 0 [.ref a0, .int v1] S μ Q := by
  refine gw_ok_of stX3_makeRoom (lv0 := [.ref a0, .int v1, .retAddr 0]) (Nat.le_of_ble_eq_true rfl) rfl rfl ?_
  intro K hK
  have hcc : 0 ≤ 0 := Nat.zero_le _
  have hss : 0 ≤ 0 := Nat.zero_le _
  have ka0_0 : gw_kd S a0 = 3 := (hS0 0 _ rfl).1
  have ra0_0_1 : gw_rf S a0 1 = a0 + 8 := (hS0 0 _ rfl).2.2 (1, 8) (by decide)
  have ka0_8 : gw_kd S (a0 + 8) = 8 := (hS0 8 _ rfl).1
  unfold F_X3_makeRoom at h
  refine hK _ _ _ _ _ _ _ ?_
  rw [fdX3_makeRoom_0]
  simp only [gt_nil, true_and, eq_self, gt_aload_n, gt_rfk, gw_nth, gt_iload_n, gt_ink, gt_put_i, gt_putz, gt_get_r, gt_get_i, gt_get_z, gt_v0, gt_v1, gt_v2, gt_v3, gt_v4, gt_v5, gt_isub, gt_istore_n, gw_set, bkX3_makeRoom_0, ka0_0, ra0_0_1, ka0_8]
  obtain ⟨μ_1, hμ_1, h⟩ := gw_lt h
  try rw [← hμ_1]
  obtain ⟨r_2, e_4, h⟩ := gw_bnd h
  refine ⟨rfl, 0, 0, hcc, hss, ok_X8_size (gw_sub hS0 8 8 (by decide +kernel)) e_4 ?_⟩
  simp only [gt_nil, true_and, eq_self, gt_aload_n, gt_rfk, gw_nth, gt_get_r, gt_get_i, gt_get_z, gt_isub, gt_istore_n, gw_set, Option.toList, List.cons_append, List.nil_append, Nat.add_zero, ka0_0, ra0_0_1, ka0_8]
  obtain ⟨w_6, hw_6, h⟩ := gw_lt h
  try rw [← hw_6]
  exact B_X3_makeRoom_18 hcc hss hK hS0 h hq
def F_X4_rightsGiven_16 (n0 : Nat) (a0 : Nat) (v1 : Int32) (s0 : Int32) (μ : gw_M) : Option (Int32) := (if s0 = 0 then (if 0 ≤ v1 ∧ v1.toNatClampNeg < 16 then some (μ (a0 + 3) v1.toNatClampNeg) else none) else (if 0 ≤ v1 ∧ v1.toNatClampNeg < 16 then some ((μ (a0 + 3) v1.toNatClampNeg) &&& ((-3) : Int32)) else none))
def F_X4_rightsGiven (n0 : Nat) (a0 : Nat) (v1 : Int32) (μ : gw_M) : Option (Int32) := (if (((μ a0 3) >>> (v1 &&& 31)) &&& (1 : Int32)) = 0 then F_X4_rightsGiven_16 n0 a0 v1 0 μ else F_X4_rightsGiven_16 n0 a0 v1 1 μ)
theorem B_X4_rightsGiven_16 {l : Launch} {x : gw_C} {d : Nat} {S : gw_S} {Q : Option Value → gw_S → gw_M → Prop} {K : Nat → gw_Kt} {mc ms cc ss : Nat} (hcc : cc ≤ mc) (hss : ss ≤ ms) (hK : gw_cl l x (d + 0) mc ms bsX4_rightsGiven Q K) {a0 : Nat} (hS0 : gw_sh S 4 a0) {n0 : Nat} {v1 s0} {u2 : Value} {μ : gw_M} {r} (h : F_X4_rightsGiven_16 n0 a0 v1 s0 μ = some r) (hq : Q (some (.int r)) S μ) : K 16 [.ref a0, .int v1, u2] [.int s0] S μ cc ss := by
  have ka0_0 : gw_kd S a0 = 4 := (hS0 0 _ rfl).1
  have ra0_0_0 : gw_rf S a0 0 = a0 + 1 := (hS0 0 _ rfl).2.2 (0, 1) (by decide)
  have ka0_1 : gw_kd S (a0 + 1) = 8 := (hS0 1 _ rfl).1
  have ra0_1_1 : gw_rf S (a0 + 1) 1 = a0 + 3 := (hS0 1 _ rfl).2.2 (1, 3) (by decide)
  have ka0_3 : gw_kd S (a0 + 3) = 12 := (hS0 3 _ rfl).1
  have la0_3 : gw_ln S (a0 + 3) = 16 := (hS0 3 _ rfl).2.1
  unfold F_X4_rightsGiven_16 at h
  refine hK _ _ _ _ _ _ _ ?_
  rw [fdX4_rightsGiven_16]
  simp only [gt_nil, true_and, eq_self, gt_istore_n, gw_set, gt_iload_n, gt_ink, gw_nth, gt_if, gt_aload_n, gt_rfk, gt_get_r, gt_get_i, gt_get_z, gt_iaload, gt_bipush, gt_iand, gt_goto, bkX4_rightsGiven_16, ka0_0, ra0_0_0, ka0_1, ra0_1_1, ka0_3, la0_3]
  refine ⟨fun c_1 => ?_, fun c_1 => ?_⟩
  · replace h := gw_ifp h c_1
    refine hK _ _ _ _ _ _ _ ?_
    rw [fdX4_rightsGiven_36]
    simp only [gt_nil, true_and, eq_self, gt_aload_n, gt_rfk, gw_nth, gt_get_r, gt_get_i, gt_get_z, gt_iload_n, gt_ink, gt_iaload, bkX4_rightsGiven_36, ka0_0, ra0_0_0, ka0_1, ra0_1_1, ka0_3, la0_3]
    obtain ⟨c_2, h⟩ := gw_ife h
    refine ⟨c_2, ?_⟩
    refine hK _ _ _ _ _ _ _ ?_
    rw [fdX4_rightsGiven_45]
    simp only [gt_nil, true_and, eq_self, gt_iret, gt_retz, bkX4_rightsGiven_45, ka0_0, ra0_0_0, ka0_1, ra0_1_1, ka0_3, la0_3]
    obtain rfl := gw_inj1 h
    exact ⟨hcc, hss, hq⟩
  · replace h := gw_ifn h c_1
    obtain ⟨c_3, h⟩ := gw_ife h
    refine ⟨c_3, ?_⟩
    refine hK _ _ _ _ _ _ _ ?_
    rw [fdX4_rightsGiven_45]
    simp only [gt_nil, true_and, eq_self, gt_iret, gt_retz, bkX4_rightsGiven_45, ka0_0, ra0_0_0, ka0_1, ra0_1_1, ka0_3, la0_3]
    obtain rfl := gw_inj1 h
    exact ⟨hcc, hss, hq⟩
theorem ok_X4_rightsGiven {l : Launch} {x : gw_C} {d : Nat} {S : gw_S} {Q : Option Value → gw_S → gw_M → Prop} {v1 : Int32} {a0 : Nat} {n0 : Nat} {μ : gw_M} {r} (hS0 : gw_sh S 4 a0) (h : F_X4_rightsGiven n0 a0 v1 μ = some r) (hq : Q (some (.int r)) S μ) : gw_ok l x (d + 1) sgX4_rightsGiven 0 0 [.ref a0, .int v1] S μ Q := by
  refine gw_ok_of stX4_rightsGiven (lv0 := [.ref a0, .int v1, .retAddr 0]) (Nat.le_of_ble_eq_true rfl) rfl rfl ?_
  intro K hK
  have hcc : 0 ≤ 0 := Nat.zero_le _
  have hss : 0 ≤ 0 := Nat.zero_le _
  have ka0_0 : gw_kd S a0 = 4 := (hS0 0 _ rfl).1
  unfold F_X4_rightsGiven at h
  refine hK _ _ _ _ _ _ _ ?_
  rw [fdX4_rightsGiven_0]
  simp only [gt_nil, true_and, eq_self, gt_aload_n, gt_rfk, gw_nth, gt_get_r, gt_get_i, gt_get_z, gt_iload_n, gt_ink, gt_ishr, gt_iconst, gt_iand, gt_if, gt_goto, bkX4_rightsGiven_0, ka0_0]
  refine ⟨fun c_1 => ?_, fun c_1 => ?_⟩
  · replace h := gw_ifp h c_1
    refine hK _ _ _ _ _ _ _ ?_
    rw [fdX4_rightsGiven_15]
    simp only [gt_nil, true_and, eq_self, gt_iconst, bkX4_rightsGiven_15, ka0_0]
    exact B_X4_rightsGiven_16 hcc hss hK hS0 h hq
  · replace h := gw_ifn h c_1
    exact B_X4_rightsGiven_16 hcc hss hK hS0 h hq
def F_X8_has (n0 : Nat) (a0 : Nat) (v1 : Int32) (μ : gw_M) : Option (Int32) := (if 0 ≤ v1 ∧ v1.toNatClampNeg < 16 then (if (μ (a0 + 1) v1.toNatClampNeg) = (-1) then some 0 else some 1) else none)
theorem ok_X8_has {l : Launch} {x : gw_C} {d : Nat} {S : gw_S} {Q : Option Value → gw_S → gw_M → Prop} {v1 : Int32} {a0 : Nat} {n0 : Nat} {μ : gw_M} {r} (hS0 : gw_sh S 8 a0) (h : F_X8_has n0 a0 v1 μ = some r) (hq : ((r = 0 ∨ r = 1) → Q (some (.int r)) S μ)) : gw_ok l x (d + 1) sgX8_has 0 0 [.ref a0, .int v1] S μ Q := by
  refine gw_ok_of stX8_has (lv0 := [.ref a0, .int v1]) (Nat.le_of_ble_eq_true rfl) rfl rfl ?_
  intro K hK
  have hcc : 0 ≤ 0 := Nat.zero_le _
  have hss : 0 ≤ 0 := Nat.zero_le _
  have ka0_0 : gw_kd S a0 = 8 := (hS0 0 _ rfl).1
  have ra0_0_0 : gw_rf S a0 0 = a0 + 1 := (hS0 0 _ rfl).2.2 (0, 1) (by decide)
  have ka0_1 : gw_kd S (a0 + 1) = 12 := (hS0 1 _ rfl).1
  have la0_1 : gw_ln S (a0 + 1) = 16 := (hS0 1 _ rfl).2.1
  unfold F_X8_has at h
  refine hK _ _ _ _ _ _ _ ?_
  rw [fdX8_has_0]
  simp only [gt_nil, true_and, eq_self, gt_aload_n, gt_rfk, gw_nth, gt_get_r, gt_get_i, gt_get_z, gt_iload_n, gt_ink, gt_iaload, gt_iconst, gt_icmp, gt_goto, bkX8_has_0, ka0_0, ra0_0_0, ka0_1, la0_1]
  obtain ⟨c_1, h⟩ := gw_ife h
  refine ⟨c_1, ?_⟩
  refine ⟨fun c_2 => ?_, fun c_2 => ?_⟩
  · replace h := gw_ifp2 (gw_c2_eq _ _) h c_2
    refine hK _ _ _ _ _ _ _ ?_
    rw [fdX8_has_14]
    simp only [gt_nil, true_and, eq_self, gt_iconst, bkX8_has_14, ka0_0, ra0_0_0, ka0_1, la0_1]
    refine hK _ _ _ _ _ _ _ ?_
    rw [fdX8_has_15]
    simp only [gt_nil, true_and, eq_self, gt_iret, gt_retz, bkX8_has_15, ka0_0, ra0_0_0, ka0_1, la0_1]
    obtain rfl := gw_inj1 h
    exact ⟨(Or.inl rfl), hcc, hss, hq (Or.inl rfl)⟩
  · replace h := gw_ifn2 (gw_c2_eq _ _) h c_2
    refine hK _ _ _ _ _ _ _ ?_
    rw [fdX8_has_15]
    simp only [gt_nil, true_and, eq_self, gt_iret, gt_retz, bkX8_has_15, ka0_0, ra0_0_0, ka0_1, la0_1]
    obtain rfl := gw_inj1 h
    exact ⟨(Or.inr rfl), hcc, hss, hq (Or.inr rfl)⟩
def F_X3_rightsOfBoth (n0 : Nat) (a0 : Nat) (v1 : Int32) (μ : gw_M) : Option (Int32) := (F_X3_inHand n0 a0 μ).bind (fun (r_1 : Nat) => (F_X8_has n0 (r_1 + 11) v1 μ).bind (fun (r_5 : Int32) => (if ¬ r_5 = 0 then (if 0 ≤ v1 ∧ v1.toNatClampNeg < 16 then (if 0 ≤ v1 ∧ v1.toNatClampNeg < 16 then (F_X4_rightsGiven n0 (a0 + 1) (μ (r_1 + 12) v1.toNatClampNeg) μ).bind (fun (r_12 : Int32) => some ((μ (r_1 + 13) v1.toNatClampNeg) &&& r_12)) else none) else none) else some 0)))
theorem ok_X3_rightsOfBoth {l : Launch} {x : gw_C} {d : Nat} {S : gw_S} {Q : Option Value → gw_S → gw_M → Prop} {v1 : Int32} {a0 : Nat} {n0 : Nat} {μ : gw_M} {r} (hS0 : gw_sh S 3 a0) (h : F_X3_rightsOfBoth n0 a0 v1 μ = some r) (hq : Q (some (.int r)) S μ) : gw_ok l x (d + 2) sgX3_rightsOfBoth 0 0 [.ref a0, .int v1] S μ Q := by
  refine gw_ok_of stX3_rightsOfBoth (lv0 := [.ref a0, .int v1, .retAddr 0]) (Nat.le_of_ble_eq_true rfl) rfl rfl ?_
  intro K hK
  have hcc : 0 ≤ 0 := Nat.zero_le _
  have hss : 0 ≤ 0 := Nat.zero_le _
  have ka0_0 : gw_kd S a0 = 3 := (hS0 0 _ rfl).1
  have ra0_0_0 : gw_rf S a0 0 = a0 + 1 := (hS0 0 _ rfl).2.2 (0, 1) (by decide)
  have ka0_1 : gw_kd S (a0 + 1) = 4 := (hS0 1 _ rfl).1
  unfold F_X3_rightsOfBoth at h
  refine hK _ _ _ _ _ _ _ ?_
  rw [fdX3_rightsOfBoth_0]
  simp only [gt_nil, true_and, eq_self, gt_aload_n, gt_rfk, gw_nth, gt_v0, gt_v1, gt_v2, gt_v3, gt_v4, gt_v5, gt_get_r, gt_get_i, gt_get_z, gt_astore_n, gw_set, gt_iload_n, gt_ink, gt_if, gt_iconst, gt_iret, gt_retz, bkX3_rightsOfBoth_0, ka0_0, ra0_0_0, ka0_1]
  obtain ⟨r_1, e_3, h⟩ := gw_bnd h
  refine ⟨rfl, 0, 0, hcc, hss, ok_X3_inHand hS0 e_3 ?_⟩
  intro hsr_1
  have kr_1_0 : gw_kd S r_1 = 1 := (hsr_1 0 _ rfl).1
  have rr_1_0_2 : gw_rf S r_1 2 = r_1 + 11 := (hsr_1 0 _ rfl).2.2 (2, 11) (by decide)
  have kr_1_11 : gw_kd S (r_1 + 11) = 8 := (hsr_1 11 _ rfl).1
  have rr_1_11_0 : gw_rf S (r_1 + 11) 0 = r_1 + 12 := (hsr_1 11 _ rfl).2.2 (0, 12) (by decide)
  have rr_1_11_1 : gw_rf S (r_1 + 11) 1 = r_1 + 13 := (hsr_1 11 _ rfl).2.2 (1, 13) (by decide)
  have kr_1_12 : gw_kd S (r_1 + 12) = 12 := (hsr_1 12 _ rfl).1
  have lr_1_12 : gw_ln S (r_1 + 12) = 16 := (hsr_1 12 _ rfl).2.1
  have kr_1_13 : gw_kd S (r_1 + 13) = 12 := (hsr_1 13 _ rfl).1
  have lr_1_13 : gw_ln S (r_1 + 13) = 16 := (hsr_1 13 _ rfl).2.1
  simp only [gt_nil, true_and, eq_self, gt_get_r, gt_get_i, gt_get_z, gt_astore_n, gw_set, gt_aload_n, gt_rfk, gw_nth, gt_iload_n, gt_ink, gt_v0, gt_v1, gt_v2, gt_v3, gt_v4, gt_v5, gt_if, gt_iconst, gt_iret, gt_retz, Option.toList, List.cons_append, List.nil_append, Nat.add_zero, ka0_0, ra0_0_0, ka0_1, kr_1_0, rr_1_0_2, kr_1_11, rr_1_11_0, rr_1_11_1, kr_1_12, lr_1_12, kr_1_13, lr_1_13]
  obtain ⟨r_5, e_7, h⟩ := gw_bnd h
  refine ⟨rfl, 0, 0, hcc, hss, ok_X8_has (gw_sub hsr_1 8 11 (by decide +kernel)) e_7 ?_⟩
  intro hbr_5
  simp only [gt_nil, true_and, eq_self, gt_if, gt_iconst, gt_iret, gt_retz, Option.toList, List.cons_append, List.nil_append, Nat.add_zero, ka0_0, ra0_0_0, ka0_1, kr_1_0, rr_1_0_2, kr_1_11, rr_1_11_0, rr_1_11_1, kr_1_12, lr_1_12, kr_1_13, lr_1_13]
  refine ⟨fun c_9 => ?_, fun c_9 => ?_⟩
  · replace h := gw_ifp h c_9
    refine hK _ _ _ _ _ _ _ ?_
    rw [fdX3_rightsOfBoth_18]
    simp only [gt_nil, true_and, eq_self, gt_aload_n, gt_rfk, gw_nth, gt_get_r, gt_get_i, gt_get_z, gt_iload_n, gt_ink, gt_iaload, gt_v0, gt_v1, gt_v2, gt_v3, gt_v4, gt_v5, gt_iand, gt_iret, gt_retz, bkX3_rightsOfBoth_18, ka0_0, ra0_0_0, ka0_1, kr_1_0, rr_1_0_2, kr_1_11, rr_1_11_0, rr_1_11_1, kr_1_12, lr_1_12, kr_1_13, lr_1_13]
    obtain ⟨c_10, h⟩ := gw_ife h
    refine ⟨c_10, ?_⟩
    obtain ⟨c_11, h⟩ := gw_ife h
    refine ⟨c_11, ?_⟩
    obtain ⟨r_12, e_14, h⟩ := gw_bnd h
    refine ⟨rfl, 0, 0, hcc, hss, ok_X4_rightsGiven (gw_sub hS0 4 1 (by decide +kernel)) e_14 ?_⟩
    simp only [gt_nil, true_and, eq_self, gt_iand, gt_iret, gt_retz, Option.toList, List.cons_append, List.nil_append, Nat.add_zero, ka0_0, ra0_0_0, ka0_1, kr_1_0, rr_1_0_2, kr_1_11, rr_1_11_0, rr_1_11_1, kr_1_12, lr_1_12, kr_1_13, lr_1_13]
    obtain rfl := gw_inj1 h
    exact ⟨hcc, hss, hq⟩
  · replace h := gw_ifn h c_9
    obtain rfl := gw_inj1 h
    exact ⟨hcc, hss, hq⟩
def F_X3_lazyPages_35 (rec4 : Int32 → Int32 → gw_M → Option (Int32)) (n0 : Nat) (a0 : Nat) (v1 : Int32) (v2 : Int32) (μ : gw_M) : Option (Int32) := gw_let (v2 + 1) (fun (w_1 : Int32) => rec4 v1 w_1 μ)
def F_X3_lazyPages_4 (n0 : Nat) (a0 : Nat) : Nat → Int32 → Int32 → gw_M → Option (Int32)
  | 0, _, _, _ => none
  | n + 1, v1, v2, μ => (if 16 ≤ v2 then some v1 else (F_X8_has n0 (a0 + 8) v2 μ).bind (fun (r_2 : Int32) => (if ¬ r_2 = 0 then F_X3_lazyPages_35 (F_X3_lazyPages_4 n0 a0 n) n0 a0 v1 v2 μ else (F_X3_rightsOfBoth n0 a0 v2 μ).bind (fun (r_7 : Int32) => (if r_7 = 0 then F_X3_lazyPages_35 (F_X3_lazyPages_4 n0 a0 n) n0 a0 v1 v2 μ else gw_let ((v1 ||| ((1 : Int32) <<< (v2 &&& 31)))) (fun (w_12 : Int32) => F_X3_lazyPages_35 (F_X3_lazyPages_4 n0 a0 n) n0 a0 w_12 v2 μ))))))
def F_X3_lazyPages (n0 : Nat) (a0 : Nat) (μ : gw_M) : Option (Int32) := F_X3_lazyPages_4 n0 a0 n0 0 0 μ
theorem B_X3_lazyPages_35 {l : Launch} {x : gw_C} {d : Nat} {S : gw_S} {Q : Option Value → gw_S → gw_M → Prop} {K : Nat → gw_Kt} {mc ms cc ss : Nat} (hcc : cc ≤ mc) (hss : ss ≤ ms) (hK : gw_cl l x (d + 2) mc ms bsX3_lazyPages Q K) {a0 : Nat} (hS0 : gw_sh S 3 a0) {rec4 : Int32 → Int32 → gw_M → Option (Int32)} (hrec4 : ∀ {v1 v2} {μ : gw_M} {r}, rec4 v1 v2 μ = some r → Q (some (.int r)) S μ → K 4 [.ref a0, .int v1, .int v2] [] S μ cc ss) {n0 : Nat} {v1 v2} {μ : gw_M} {r} (h : F_X3_lazyPages_35 rec4 n0 a0 v1 v2 μ = some r) (hq : Q (some (.int r)) S μ) : K 35 [.ref a0, .int v1, .int v2] [] S μ cc ss := by
  unfold F_X3_lazyPages_35 at h
  refine hK _ _ _ _ _ _ _ ?_
  rw [fdX3_lazyPages_35]
  simp only [gt_nil, true_and, eq_self, gt_iinc, gt_ink, gw_nth, gw_set, gt_goto, bkX3_lazyPages_35]
  obtain ⟨w_1, hw_1, h⟩ := gw_lt h
  try rw [← hw_1]
  exact hrec4 h hq
theorem B_X3_lazyPages_4 {l : Launch} {x : gw_C} {d : Nat} {S : gw_S} {Q : Option Value → gw_S → gw_M → Prop} {K : Nat → gw_Kt} {mc ms cc ss : Nat} (hcc : cc ≤ mc) (hss : ss ≤ ms) (hK : gw_cl l x (d + 2) mc ms bsX3_lazyPages Q K) {a0 : Nat} (hS0 : gw_sh S 3 a0) {n0 : Nat} : ∀ {n : Nat} {v1 v2} {μ : gw_M} {r}, F_X3_lazyPages_4 n0 a0 n v1 v2 μ = some r → Q (some (.int r)) S μ → K 4 [.ref a0, .int v1, .int v2] [] S μ cc ss := by
  have ka0_0 : gw_kd S a0 = 3 := (hS0 0 _ rfl).1
  have ra0_0_1 : gw_rf S a0 1 = a0 + 8 := (hS0 0 _ rfl).2.2 (1, 8) (by decide)
  have ka0_8 : gw_kd S (a0 + 8) = 8 := (hS0 8 _ rfl).1
  intro n
  induction n with
  | zero => intro v1 v2 μ r h hq; simp [F_X3_lazyPages_4] at h
  | succ n ih =>
    intro v1 v2 μ r h hq
    simp only [F_X3_lazyPages_4] at h
    refine hK _ _ _ _ _ _ _ ?_
    rw [fdX3_lazyPages_4]
    simp only [gt_nil, true_and, eq_self, gt_iload_n, gt_ink, gw_nth, gt_bipush, gt_icmp, gt_aload_n, gt_rfk, gt_get_r, gt_get_i, gt_get_z, gt_v0, gt_v1, gt_v2, gt_v3, gt_v4, gt_v5, gt_if, gt_iconst, gt_ishl, gt_ior, gt_istore_n, gw_set, bkX3_lazyPages_4, ka0_0, ra0_0_1, ka0_8]
    refine ⟨fun c_1 => ?_, fun c_1 => ?_⟩
    · replace h := gw_ifp2 (gw_c2_ge _ _) h c_1
      refine hK _ _ _ _ _ _ _ ?_
      rw [fdX3_lazyPages_41]
      simp only [gt_nil, true_and, eq_self, gt_iload_n, gt_ink, gw_nth, gt_iret, gt_retz, bkX3_lazyPages_41, ka0_0, ra0_0_1, ka0_8]
      obtain rfl := gw_inj1 h
      exact ⟨hcc, hss, hq⟩
    · replace h := gw_ifn2 (gw_c2_ge _ _) h c_1
      obtain ⟨r_2, e_4, h⟩ := gw_bnd h
      refine ⟨rfl, 0, 0, hcc, hss, ok_X8_has (gw_sub hS0 8 8 (by decide +kernel)) e_4 ?_⟩
      intro hbr_2
      simp only [gt_nil, true_and, eq_self, gt_if, gt_aload_n, gt_rfk, gw_nth, gt_iload_n, gt_ink, gt_v0, gt_v1, gt_v2, gt_v3, gt_v4, gt_v5, gt_iconst, gt_ishl, gt_ior, gt_istore_n, gw_set, Option.toList, List.cons_append, List.nil_append, Nat.add_zero, ka0_0, ra0_0_1, ka0_8]
      refine ⟨fun c_6 => ?_, fun c_6 => ?_⟩
      · replace h := gw_ifp h c_6
        exact B_X3_lazyPages_35 hcc hss hK hS0 ih h hq
      · replace h := gw_ifn h c_6
        obtain ⟨r_7, e_9, h⟩ := gw_bnd h
        refine ⟨rfl, 0, 0, hcc, hss, ok_X3_rightsOfBoth hS0 e_9 ?_⟩
        simp only [gt_nil, true_and, eq_self, gt_if, gt_iload_n, gt_ink, gw_nth, gt_iconst, gt_ishl, gt_ior, gt_istore_n, gw_set, Option.toList, List.cons_append, List.nil_append, Nat.add_zero, ka0_0, ra0_0_1, ka0_8]
        refine ⟨fun c_11 => ?_, fun c_11 => ?_⟩
        · replace h := gw_ifp h c_11
          exact B_X3_lazyPages_35 hcc hss hK hS0 ih h hq
        · replace h := gw_ifn h c_11
          obtain ⟨w_12, hw_12, h⟩ := gw_lt h
          try rw [← hw_12]
          exact B_X3_lazyPages_35 hcc hss hK hS0 ih h hq
theorem ok_X3_lazyPages {l : Launch} {x : gw_C} {d : Nat} {S : gw_S} {Q : Option Value → gw_S → gw_M → Prop} {a0 : Nat} {n0 : Nat} {μ : gw_M} {r} (hS0 : gw_sh S 3 a0) (h : F_X3_lazyPages n0 a0 μ = some r) (hq : Q (some (.int r)) S μ) : gw_ok l x (d + 3) sgX3_lazyPages 0 0 [.ref a0] S μ Q := by
  refine gw_ok_of stX3_lazyPages (lv0 := [.ref a0, .retAddr 0, .retAddr 0]) (Nat.le_of_ble_eq_true rfl) rfl rfl ?_
  intro K hK
  have hcc : 0 ≤ 0 := Nat.zero_le _
  have hss : 0 ≤ 0 := Nat.zero_le _
  unfold F_X3_lazyPages at h
  refine hK _ _ _ _ _ _ _ ?_
  rw [fdX3_lazyPages_0]
  simp only [gt_nil, true_and, eq_self, gt_iconst, gt_istore_n, gw_set, bkX3_lazyPages_0]
  exact B_X3_lazyPages_4 hcc hss hK hS0 h hq
def F_X3_fold (n0 : Nat) (a0 : Nat) (v1 : Int32) (μ : gw_M) : Option (gw_M) := (F_X3_inHand n0 a0 μ).bind (fun (r_1 : Nat) => (if 0 ≤ v1 ∧ v1.toNatClampNeg < 16 then gw_let ((μ (r_1 + 12) v1.toNatClampNeg)) (fun (w_6 : Int32) => (if 0 ≤ v1 ∧ v1.toNatClampNeg < 16 then (F_X4_rightsGiven n0 (a0 + 1) w_6 μ).bind (fun (r_8 : Int32) => gw_let (((μ (r_1 + 13) v1.toNatClampNeg) &&& r_8)) (fun (w_12 : Int32) => (if 0 ≤ w_6 ∧ w_6.toNatClampNeg < 16 then (F_X8_put n0 (a0 + 8) v1 (μ (a0 + 3) w_6.toNatClampNeg) w_12 μ).bind (fun (μ_15 : gw_M) => some μ_15) else none))) else none)) else none))
theorem ok_X3_fold {l : Launch} {x : gw_C} {d : Nat} {S : gw_S} {Q : Option Value → gw_S → gw_M → Prop} {v1 : Int32} {a0 : Nat} {n0 : Nat} {μ : gw_M} {μ'} (hS0 : gw_sh S 3 a0) (h : F_X3_fold n0 a0 v1 μ = some μ') (hq : Q none S μ') : gw_ok l x (d + 2) sgX3_fold 0 0 [.ref a0, .int v1] S μ Q := by
  refine gw_ok_of stX3_fold (lv0 := [.ref a0, .int v1, .retAddr 0, .retAddr 0, .retAddr 0]) (Nat.le_of_ble_eq_true rfl) rfl rfl ?_
  intro K hK
  have hcc : 0 ≤ 0 := Nat.zero_le _
  have hss : 0 ≤ 0 := Nat.zero_le _
  have ka0_0 : gw_kd S a0 = 3 := (hS0 0 _ rfl).1
  have ra0_0_0 : gw_rf S a0 0 = a0 + 1 := (hS0 0 _ rfl).2.2 (0, 1) (by decide)
  have ra0_0_1 : gw_rf S a0 1 = a0 + 8 := (hS0 0 _ rfl).2.2 (1, 8) (by decide)
  have ka0_1 : gw_kd S (a0 + 1) = 4 := (hS0 1 _ rfl).1
  have ra0_1_0 : gw_rf S (a0 + 1) 0 = a0 + 2 := (hS0 1 _ rfl).2.2 (0, 2) (by decide)
  have ka0_2 : gw_kd S (a0 + 2) = 8 := (hS0 2 _ rfl).1
  have ra0_2_0 : gw_rf S (a0 + 2) 0 = a0 + 3 := (hS0 2 _ rfl).2.2 (0, 3) (by decide)
  have ka0_3 : gw_kd S (a0 + 3) = 12 := (hS0 3 _ rfl).1
  have la0_3 : gw_ln S (a0 + 3) = 16 := (hS0 3 _ rfl).2.1
  have ka0_8 : gw_kd S (a0 + 8) = 8 := (hS0 8 _ rfl).1
  unfold F_X3_fold at h
  refine hK _ _ _ _ _ _ _ ?_
  rw [fdX3_fold_0]
  simp only [gt_nil, true_and, eq_self, gt_aload_n, gt_rfk, gw_nth, gt_v0, gt_v1, gt_v2, gt_v3, gt_v4, gt_v5, gt_get_r, gt_get_i, gt_get_z, gt_astore_n, gw_set, gt_iload_n, gt_ink, gt_iaload, gt_istore_n, gt_iand, gt_istore, gt_iload, gt_vret, bkX3_fold_0, ka0_0, ra0_0_0, ra0_0_1, ka0_1, ra0_1_0, ka0_2, ra0_2_0, ka0_3, la0_3, ka0_8]
  obtain ⟨r_1, e_3, h⟩ := gw_bnd h
  refine ⟨rfl, 0, 0, hcc, hss, ok_X3_inHand hS0 e_3 ?_⟩
  intro hsr_1
  have kr_1_0 : gw_kd S r_1 = 1 := (hsr_1 0 _ rfl).1
  have rr_1_0_2 : gw_rf S r_1 2 = r_1 + 11 := (hsr_1 0 _ rfl).2.2 (2, 11) (by decide)
  have kr_1_11 : gw_kd S (r_1 + 11) = 8 := (hsr_1 11 _ rfl).1
  have rr_1_11_0 : gw_rf S (r_1 + 11) 0 = r_1 + 12 := (hsr_1 11 _ rfl).2.2 (0, 12) (by decide)
  have rr_1_11_1 : gw_rf S (r_1 + 11) 1 = r_1 + 13 := (hsr_1 11 _ rfl).2.2 (1, 13) (by decide)
  have kr_1_12 : gw_kd S (r_1 + 12) = 12 := (hsr_1 12 _ rfl).1
  have lr_1_12 : gw_ln S (r_1 + 12) = 16 := (hsr_1 12 _ rfl).2.1
  have kr_1_13 : gw_kd S (r_1 + 13) = 12 := (hsr_1 13 _ rfl).1
  have lr_1_13 : gw_ln S (r_1 + 13) = 16 := (hsr_1 13 _ rfl).2.1
  simp only [gt_nil, true_and, eq_self, gt_get_r, gt_get_i, gt_get_z, gt_astore_n, gw_set, gt_aload_n, gt_rfk, gw_nth, gt_iload_n, gt_ink, gt_iaload, gt_istore_n, gt_v0, gt_v1, gt_v2, gt_v3, gt_v4, gt_v5, gt_iand, gt_istore, gt_iload, gt_vret, Option.toList, List.cons_append, List.nil_append, Nat.add_zero, ka0_0, ra0_0_0, ra0_0_1, ka0_1, ra0_1_0, ka0_2, ra0_2_0, ka0_3, la0_3, ka0_8, kr_1_0, rr_1_0_2, kr_1_11, rr_1_11_0, rr_1_11_1, kr_1_12, lr_1_12, kr_1_13, lr_1_13]
  obtain ⟨c_5, h⟩ := gw_ife h
  refine ⟨c_5, ?_⟩
  obtain ⟨w_6, hw_6, h⟩ := gw_lt h
  try rw [← hw_6]
  obtain ⟨c_7, h⟩ := gw_ife h
  refine ⟨c_7, ?_⟩
  obtain ⟨r_8, e_10, h⟩ := gw_bnd h
  refine ⟨rfl, 0, 0, hcc, hss, ok_X4_rightsGiven (gw_sub hS0 4 1 (by decide +kernel)) e_10 ?_⟩
  simp only [gt_nil, true_and, eq_self, gt_iand, gt_istore, gw_set, gt_aload_n, gt_rfk, gw_nth, gt_get_r, gt_get_i, gt_get_z, gt_iload_n, gt_ink, gt_iaload, gt_iload, gt_v0, gt_v1, gt_v2, gt_v3, gt_v4, gt_v5, gt_vret, Option.toList, List.cons_append, List.nil_append, Nat.add_zero, ka0_0, ra0_0_0, ra0_0_1, ka0_1, ra0_1_0, ka0_2, ra0_2_0, ka0_3, la0_3, ka0_8, kr_1_0, rr_1_0_2, kr_1_11, rr_1_11_0, rr_1_11_1, kr_1_12, lr_1_12, kr_1_13, lr_1_13]
  obtain ⟨w_12, hw_12, h⟩ := gw_lt h
  try rw [← hw_12]
  obtain ⟨c_13, h⟩ := gw_ife h
  refine ⟨c_13, ?_⟩
  obtain ⟨μ_15, e_16, h⟩ := gw_bnd h
  refine ⟨rfl, 0, 0, hcc, hss, ok_X8_put (gw_sub hS0 8 8 (by decide +kernel)) e_16 ?_⟩
  simp only [gt_nil, true_and, eq_self, gt_vret, Option.toList, List.cons_append, List.nil_append, Nat.add_zero, ka0_0, ra0_0_0, ra0_0_1, ka0_1, ra0_1_0, ka0_2, ra0_2_0, ka0_3, la0_3, ka0_8, kr_1_0, rr_1_0_2, kr_1_11, rr_1_11_0, rr_1_11_1, kr_1_12, lr_1_12, kr_1_13, lr_1_13]
  obtain rfl := gw_inj1 h
  exact ⟨hcc, hss, hq⟩
def F_X3_foldLazyPages_53 (rec23 : Int32 → Int32 → Int32 → Int32 → gw_M → Option (Int32 × gw_M)) (n0 : Nat) (a0 : Nat) (v1 : Int32) (v2 : Int32) (v3 : Int32) (v4 : Int32) (μ : gw_M) : Option (Int32 × gw_M) := gw_let (v4 + 1) (fun (w_1 : Int32) => rec23 v1 v2 v3 w_1 μ)
def F_X3_foldLazyPages_23 (n0 : Nat) (a0 : Nat) : Nat → Int32 → Int32 → Int32 → Int32 → gw_M → Option (Int32 × gw_M)
  | 0, _, _, _, _, _ => none
  | n + 1, v1, v2, v3, v4, μ => (if 16 ≤ v4 then some (v3, μ) else (if v2 ≤ v3 then some (v3, μ) else (F_X10_hasBit n0 v1 v4 μ).bind (fun (r_3 : Int32) => (if r_3 = 0 then F_X3_foldLazyPages_53 (F_X3_foldLazyPages_23 n0 a0 n) n0 a0 v1 v2 v3 v4 μ else (F_X3_fold n0 a0 v4 μ).bind (fun (μ_9 : gw_M) => gw_let (v3 + 1) (fun (w_12 : Int32) => F_X3_foldLazyPages_53 (F_X3_foldLazyPages_23 n0 a0 n) n0 a0 v1 v2 w_12 v4 μ_9))))))
def F_X3_foldLazyPages (n0 : Nat) (a0 : Nat) (μ : gw_M) : Option (Int32 × gw_M) := (F_X3_lazyPages n0 a0 μ).bind (fun (r_1 : Int32) => (F_X8_size n0 (a0 + 8) μ).bind (fun (r_5 : Int32) => gw_let (((μ a0 2) - r_5)) (fun (w_9 : Int32) => F_X3_foldLazyPages_23 n0 a0 n0 r_1 w_9 0 0 μ)))
theorem B_X3_foldLazyPages_53 {l : Launch} {x : gw_C} {d : Nat} {S : gw_S} {Q : Option Value → gw_S → gw_M → Prop} {K : Nat → gw_Kt} {mc ms cc ss : Nat} (hcc : cc ≤ mc) (hss : ss ≤ ms) (hK : gw_cl l x (d + 3) mc ms bsX3_foldLazyPages Q K) {a0 : Nat} (hS0 : gw_sh S 3 a0) {rec23 : Int32 → Int32 → Int32 → Int32 → gw_M → Option (Int32 × gw_M)} (hrec23 : ∀ {v1 v2 v3 v4} {μ : gw_M} {r μ'}, rec23 v1 v2 v3 v4 μ = some (r, μ') → Q (some (.int r)) S μ' → K 23 [.ref a0, .int v1, .int v2, .int v3, .int v4] [] S μ cc ss) {n0 : Nat} {v1 v2 v3 v4} {μ : gw_M} {r μ'} (h : F_X3_foldLazyPages_53 rec23 n0 a0 v1 v2 v3 v4 μ = some (r, μ')) (hq : Q (some (.int r)) S μ') : K 53 [.ref a0, .int v1, .int v2, .int v3, .int v4] [] S μ cc ss := by
  unfold F_X3_foldLazyPages_53 at h
  refine hK _ _ _ _ _ _ _ ?_
  rw [fdX3_foldLazyPages_53]
  simp only [gt_nil, true_and, eq_self, gt_iinc, gt_ink, gw_nth, gw_set, gt_goto, bkX3_foldLazyPages_53]
  obtain ⟨w_1, hw_1, h⟩ := gw_lt h
  try rw [← hw_1]
  exact hrec23 h hq
theorem B_X3_foldLazyPages_23 {l : Launch} {x : gw_C} {d : Nat} {S : gw_S} {Q : Option Value → gw_S → gw_M → Prop} {K : Nat → gw_Kt} {mc ms cc ss : Nat} (hcc : cc ≤ mc) (hss : ss ≤ ms) (hK : gw_cl l x (d + 3) mc ms bsX3_foldLazyPages Q K) {a0 : Nat} (hS0 : gw_sh S 3 a0) {n0 : Nat} : ∀ {n : Nat} {v1 v2 v3 v4} {μ : gw_M} {r μ'}, F_X3_foldLazyPages_23 n0 a0 n v1 v2 v3 v4 μ = some (r, μ') → Q (some (.int r)) S μ' → K 23 [.ref a0, .int v1, .int v2, .int v3, .int v4] [] S μ cc ss := by
  have ka0_0 : gw_kd S a0 = 3 := (hS0 0 _ rfl).1
  intro n
  induction n with
  | zero => intro v1 v2 v3 v4 μ r μ' h hq; simp [F_X3_foldLazyPages_23] at h
  | succ n ih =>
    intro v1 v2 v3 v4 μ r μ' h hq
    simp only [F_X3_foldLazyPages_23] at h
    refine hK _ _ _ _ _ _ _ ?_
    rw [fdX3_foldLazyPages_23]
    simp only [gt_nil, true_and, eq_self, gt_iload, gt_ink, gw_nth, gt_bipush, gt_icmp, gt_iload_n, gt_s1_0, gt_s2_0, gt_s3_0, gt_s4_0, gt_s1_1, gt_s2_1, gt_s3_1, gt_s4_1, gt_acpy, gt_if, gt_aload_n, gt_rfk, gt_v0, gt_v1, gt_v2, gt_v3, gt_v4, gt_v5, gt_iinc, gw_set, bkX3_foldLazyPages_23, ka0_0]
    refine ⟨fun c_1 => ?_, fun c_1 => ?_⟩
    · replace h := gw_ifp2 (gw_c2_ge _ _) h c_1
      refine hK _ _ _ _ _ _ _ ?_
      rw [fdX3_foldLazyPages_59]
      simp only [gt_nil, true_and, eq_self, gt_iload_n, gt_ink, gw_nth, gt_iret, gt_retz, bkX3_foldLazyPages_59, ka0_0]
      obtain ⟨rfl, rfl⟩ := gw_inj2 h
      exact ⟨hcc, hss, hq⟩
    · replace h := gw_ifn2 (gw_c2_ge _ _) h c_1
      refine ⟨fun c_2 => ?_, fun c_2 => ?_⟩
      · replace h := gw_ifp2 (gw_c2_ge _ _) h c_2
        refine hK _ _ _ _ _ _ _ ?_
        rw [fdX3_foldLazyPages_59]
        simp only [gt_nil, true_and, eq_self, gt_iload_n, gt_ink, gw_nth, gt_iret, gt_retz, bkX3_foldLazyPages_59, ka0_0]
        obtain ⟨rfl, rfl⟩ := gw_inj2 h
        exact ⟨hcc, hss, hq⟩
      · replace h := gw_ifn2 (gw_c2_ge _ _) h c_2
        obtain ⟨r_3, e_5, h⟩ := gw_bnd h
        refine ⟨rfl, 0, 0, hcc, hss, ok_X10_hasBit e_5 ?_⟩
        intro hbr_3
        simp only [gt_nil, true_and, eq_self, gt_if, gt_aload_n, gt_rfk, gw_nth, gt_iload, gt_ink, gt_v0, gt_v1, gt_v2, gt_v3, gt_v4, gt_v5, gt_iinc, gw_set, Option.toList, List.cons_append, List.nil_append, Nat.add_zero, ka0_0]
        refine ⟨fun c_7 => ?_, fun c_7 => ?_⟩
        · replace h := gw_ifp h c_7
          exact B_X3_foldLazyPages_53 hcc hss hK hS0 ih h hq
        · replace h := gw_ifn h c_7
          obtain ⟨μ_9, e_10, h⟩ := gw_bnd h
          refine ⟨rfl, 0, 0, hcc, hss, ok_X3_fold hS0 e_10 ?_⟩
          simp only [gt_nil, true_and, eq_self, gt_iinc, gt_ink, gw_nth, gw_set, Option.toList, List.cons_append, List.nil_append, Nat.add_zero, ka0_0]
          obtain ⟨w_12, hw_12, h⟩ := gw_lt h
          try rw [← hw_12]
          exact B_X3_foldLazyPages_53 hcc hss hK hS0 ih h hq
theorem ok_X3_foldLazyPages {l : Launch} {x : gw_C} {d : Nat} {S : gw_S} {Q : Option Value → gw_S → gw_M → Prop} {a0 : Nat} {n0 : Nat} {μ : gw_M} {r μ'} (hS0 : gw_sh S 3 a0) (h : F_X3_foldLazyPages n0 a0 μ = some (r, μ')) (hq : Q (some (.int r)) S μ') : gw_ok l x (d + 4) sgX3_foldLazyPages 0 0 [.ref a0] S μ Q := by
  refine gw_ok_of stX3_foldLazyPages (lv0 := [.ref a0, .retAddr 0, .retAddr 0, .retAddr 0, .retAddr 0]) (Nat.le_of_ble_eq_true rfl) rfl rfl ?_
  intro K hK
  have hcc : 0 ≤ 0 := Nat.zero_le _
  have hss : 0 ≤ 0 := Nat.zero_le _
  have ka0_0 : gw_kd S a0 = 3 := (hS0 0 _ rfl).1
  have ra0_0_1 : gw_rf S a0 1 = a0 + 8 := (hS0 0 _ rfl).2.2 (1, 8) (by decide)
  have ka0_8 : gw_kd S (a0 + 8) = 8 := (hS0 8 _ rfl).1
  unfold F_X3_foldLazyPages at h
  refine hK _ _ _ _ _ _ _ ?_
  rw [fdX3_foldLazyPages_0]
  simp only [gt_nil, true_and, eq_self, gt_aload_n, gt_rfk, gw_nth, gt_v0, gt_v1, gt_v2, gt_v3, gt_v4, gt_v5, gt_istore_n, gw_set, gt_get_r, gt_get_i, gt_get_z, gt_isub, gt_iconst, gt_istore, bkX3_foldLazyPages_0, ka0_0, ra0_0_1, ka0_8]
  obtain ⟨r_1, e_3, h⟩ := gw_bnd h
  refine ⟨rfl, 0, 0, hcc, hss, ok_X3_lazyPages hS0 e_3 ?_⟩
  simp only [gt_nil, true_and, eq_self, gt_istore_n, gw_set, gt_aload_n, gt_rfk, gw_nth, gt_get_r, gt_get_i, gt_get_z, gt_v0, gt_v1, gt_v2, gt_v3, gt_v4, gt_v5, gt_isub, gt_iconst, gt_istore, Option.toList, List.cons_append, List.nil_append, Nat.add_zero, ka0_0, ra0_0_1, ka0_8]
  obtain ⟨r_5, e_7, h⟩ := gw_bnd h
  refine ⟨rfl, 0, 0, hcc, hss, ok_X8_size (gw_sub hS0 8 8 (by decide +kernel)) e_7 ?_⟩
  simp only [gt_nil, true_and, eq_self, gt_isub, gt_istore_n, gw_set, gt_iconst, gt_istore, Option.toList, List.cons_append, List.nil_append, Nat.add_zero, ka0_0, ra0_0_1, ka0_8]
  obtain ⟨w_9, hw_9, h⟩ := gw_lt h
  try rw [← hw_9]
  exact B_X3_foldLazyPages_23 hcc hss hK hS0 h hq
