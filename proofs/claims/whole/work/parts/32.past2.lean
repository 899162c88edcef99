theorem ok_X5_popInto0 {l : Launch} {x : gw_C} {d mc ms : Nat} {S : gw_S} {Q : Option Value → gw_S → gw_M → Prop} {e p : Nat} {μ : gw_M} (hE : gw_sh S 5 e) (h0 : μ e 2 = 0) (hq : Q none S μ) : gw_ok l x (d + 6) sgX5_popInto mc ms [.ref e, .ref p] S μ Q := by
  refine gw_ok_of stX5_popInto (lv0 := [.ref e, .ref p, .retAddr 0]) (Nat.le_of_ble_eq_true rfl) rfl rfl ?_
  intro K hK
  have hE0 := (hE 0 _ rfl).1
  simp only [Nat.add_zero] at hE0
  refine hK _ _ _ _ _ _ _ ?_
  rw [fdX5_popInto_0]
  simp only [bkX5_popInto_0, gt_nil, gt_aload_n, gt_rfk, gw_nth, gt_get_i, gt_if, gt_vret, hE0, true_and]
  exact ⟨fun c => absurd h0 c, fun _ => ⟨Nat.zero_le _, Nat.zero_le _, hq⟩⟩
theorem ok_X5_popInto {l : Launch} {x : gw_C} {d mc ms : Nat} {S : gw_S} {Q : Option Value → gw_S → gw_M → Prop} {e p n0 k : Nat} {μ μ1 : gw_M} (hE : gw_sh S 5 e) (hp : gw_sh S 3 p) (h0 : ¬ μ e 2 = 0) (hk : k < 20) (hsl : gw_sl (gw_up μ e 2 (μ e 2 - 1)) e = nI k) (hr0 : ¬ gw_rf S (e + 1) k = 0) (hr : gw_sh S 3 (gw_rf S (e + 1) k)) (hc : F_X3_copyFrom n0 p (gw_rf S (e + 1) k) (gw_up μ e 2 (μ e 2 - 1)) = some μ1) (hq : Q none S μ1) : gw_ok l x (d + 6) sgX5_popInto mc ms [.ref e, .ref p] S μ Q := by
  refine gw_ok_of stX5_popInto (lv0 := [.ref e, .ref p, .retAddr 0]) (Nat.le_of_ble_eq_true rfl) rfl rfl ?_
  intro K hK
  have hE0 := (hE 0 _ rfl).1
  have hE1 := (hE 1 _ rfl).1
  have hE1l := (hE 1 _ rfl).2.1
  have hEr := (hE 0 _ rfl).2.2 (0, 1) (by decide)
  have hin : gw_in (nI k) 20 := gw_nI_in hk (by decide)
  have hcl : (nI k).toNatClampNeg = k := nI_clamp (by omega)
  have k3 := (hp 0 _ rfl).1
  simp only [Nat.add_zero] at hE0 hEr k3
  refine hK _ _ _ _ _ _ _ ?_
  rw [fdX5_popInto_0]
  simp only [bkX5_popInto_0, gt_nil, gt_aload_n, gt_rfk, gw_nth, gt_get_i, gt_if, gt_vret, hE0, true_and]
  refine ⟨fun _ => ?_, fun c => absurd h0 c⟩
  refine hK _ _ _ _ _ _ _ ?_
  rw [fdX5_popInto_8]
  have hsl2 : (gw_up μ e 2 (μ e 2 - 1) e 1 + gw_up μ e 2 (μ e 2 - 1) e 2) - (gw_up μ e 2 (μ e 2 - 1) e 1 + gw_up μ e 2 (μ e 2 - 1) e 2) / 20 * 20 = nI k := hsl
  simp only [bkX5_popInto_8, gt_nil, gt_aload_n, gt_rfk, gw_nth, gw_set, gt_dup_r, gt_get_i, gt_get_r, gt_put_i, gt_iconst, gt_isub, gt_iadd, gt_bipush, gt_irem, gt_astore_n, gt_aaload, gt_ifnull, gt_v1, hE0, hE1, hE1l, hEr, hsl2, hcl, true_and, or_true]
  refine ⟨by decide, hin, fun c => absurd c hr0, fun _ => ⟨k3, rfl, 0, 0, Nat.zero_le _, Nat.zero_le _, ok_X3_copyFrom hp hr hc ?_⟩⟩
  simp only [Option.toList, List.nil_append, Nat.add_zero]
  refine hK _ _ _ _ _ _ _ ?_
  rw [fdX5_popInto_45]
  simp only [bkX5_popInto_45, gt_vret]
  exact ⟨Nat.zero_le _, Nat.zero_le _, hq⟩
/-- one step of copyFrom: the row of o is pushed onto e -/
def gw_cst (n0 e o i : Nat) (S : gw_S) (μ : gw_M) (b b' : Nat) (S' : gw_S) (μ' : gw_M) : Prop := ∃ (k k2 : Nat) (μ1 : gw_M), k < 20 ∧ k2 < 20 ∧ (μ o 1 + nI i) - (μ o 1 + nI i) / 20 * 20 = nI k ∧ ¬ gw_rf S (o + 1) k = 0 ∧ gw_sh S 3 (gw_rf S (o + 1) k) ∧ gw_sl μ e = nI k2 ∧ (gw_rf S (e + 1) k2 = 0 ∨ gw_sh S 3 (gw_rf S (e + 1) k2)) ∧ F_X3_copyFrom n0 (gw_pR S e k2) (gw_rf S (o + 1) k) (gw_pM S μ e k2) = some μ1 ∧ (gw_rf S (e + 1) k2 = 0 → b + 1 ≤ b') ∧ b ≤ b' ∧ S' = gw_pS S e k2 ∧ μ' = gw_pE μ1 e
set_option maxRecDepth 4000 in
theorem ok_X5_copyFrom {l : Launch} {x : gw_C} {d : Nat} {S : gw_S} {Q : Option Value → gw_S → gw_M → Prop} {e o n0 : Nat} {μ : gw_M} (P : Nat → Nat → gw_S → gw_M → Prop) (n B : Nat) (hn : n ≤ 20) (hE : gw_sh S 5 e) (h0 : P 0 0 S (gw_up (gw_up μ e 1 0) e 2 0))
    (hI : ∀ i b S μ, i ≤ n → P i b S μ → gw_sh S 5 e ∧ gw_sh S 5 o ∧ μ o 2 = nI n ∧ b ≤ B)
    (hst : ∀ i b S μ, i < n → P i b S μ → ∃ b' S' μ', gw_cst n0 e o i S μ b b' S' μ' ∧ P (i + 1) b' S' μ')
    (hq : ∀ b S μ, P n b S μ → Q none S μ) : gw_ok l x (d + 7) sgX5_copyFrom (82 * B) (1107 * B) [.ref e, .ref o] S μ Q := by
  refine gw_ok_of stX5_copyFrom (lv0 := [.ref e, .ref o, .retAddr 0, .retAddr 0]) (Nat.le_of_ble_eq_true rfl) rfl rfl ?_
  intro K hK
  have hE0 := (hE 0 _ rfl).1
  simp only [Nat.add_zero] at hE0
  have loop : ∀ (m i b : Nat) (S : gw_S) (μ : gw_M) (u : Value), i + m = n → P i b S μ → K 12 [.ref e, .ref o, .int (nI i), u] [] S μ (82 * b) (1107 * b) := by
    intro m
    induction m with
    | zero =>
      intro i b S μ u him hP
      obtain ⟨q1, q2, q3, q4⟩ := hI i b S μ (by omega) hP
      have o0 := (q2 0 _ rfl).1
      simp only [Nat.add_zero] at o0
      have hi : i = n := by omega
      subst hi
      refine hK _ _ _ _ _ _ _ ?_
      rw [fdX5_copyFrom_12]
      simp only [bkX5_copyFrom_12, gt_nil, gt_aload_n, gt_rfk, gw_nth, gt_iload_n, gt_ink, gt_get_i, gt_icmp, o0, q3, true_and]
      refine ⟨fun _ => ?_, fun c => absurd (show nI i ≤ nI i from nI_le (Nat.le_refl _) (by omega)) c⟩
      refine hK _ _ _ _ _ _ _ ?_
      rw [fdX5_copyFrom_50]
      simp only [bkX5_copyFrom_50, gt_vret]
      exact ⟨by omega, by omega, hq _ _ _ hP⟩
    | succ m ih =>
      intro i b S μ u him hP
      obtain ⟨q1, q2, q3, q4⟩ := hI i b S μ (by omega) hP
      have o0 := (q2 0 _ rfl).1
      have o1 := (q2 1 _ rfl).1
      have o1l := (q2 1 _ rfl).2.1
      have oR := (q2 0 _ rfl).2.2 (0, 1) (by decide)
      have e0 := (q1 0 _ rfl).1
      simp only [Nat.add_zero] at o0 oR e0
      refine hK _ _ _ _ _ _ _ ?_
      rw [fdX5_copyFrom_12]
      simp only [bkX5_copyFrom_12, gt_nil, gt_aload_n, gt_rfk, gw_nth, gw_set, gt_iload_n, gt_ink, gt_get_i, gt_get_r, gt_icmp, gt_iadd, gt_bipush, gt_irem, gt_aaload, gt_astore_n, gt_ifnull, gt_v1, o0, o1, o1l, oR, q3, true_and, or_true]
      refine ⟨fun c => absurd (show nI n ≤ nI i from c) (nI_ge (by omega) (by omega)), fun _ => ⟨by decide, ?_⟩⟩
      obtain ⟨b', S', μ', ⟨k, k2, μ1, hk, hk2, hko, hr0, hr, hsl, hre, hc, hb1, hb2, hS', hμ'⟩, hP'⟩ := hst i b S μ (by omega) hP
      obtain ⟨-, -, -, q4'⟩ := hI (i + 1) b' S' μ' (by omega) hP'
      have hin : gw_in (nI k) 20 := gw_nI_in hk (by decide)
      have hcl : (nI k).toNatClampNeg = k := nI_clamp (by omega)
      rw [hko, hcl]
      refine ⟨hin, fun c => absurd c hr0, fun _ => ⟨e0, rfl, 82 * (b' - b), 1107 * (b' - b), by omega, by omega, ?_⟩⟩
      refine ok_X5_push q1 hr hk2 hsl hre (fun h => by have := hb1 h; omega) hc ?_
      simp only [Option.toList, List.nil_append]
      rw [show 82 * b + 82 * (b' - b) = 82 * b' by omega, show 1107 * b + 1107 * (b' - b) = 1107 * b' by omega, ← hS', ← hμ']
      refine hK _ _ _ _ _ _ _ ?_
      rw [fdX5_copyFrom_44]
      simp only [bkX5_copyFrom_44, gt_nil, gt_iinc, gt_goto, gt_ink, gw_nth, gw_set]
      rw [nI_1]
      exact ih (i + 1) b' S' μ' _ (by omega) hP'
  refine hK _ _ _ _ _ _ _ ?_
  rw [fdX5_copyFrom_0]
  simp only [bkX5_copyFrom_0, gt_nil, gt_aload_n, gt_rfk, gw_nth, gw_set, gt_iconst, gt_put_i, gt_istore_n, hE0, true_and]
  exact loop n 0 0 _ _ _ (by omega) h0
theorem wf_new {S : gw_S} (kd ln : Nat) (h : gw_wf S) : gw_wf (gw_new S kd ln) := by
  intro a ha
  rw [nn_new]
  rw [kd_new] at ha
  by_cases e : a = gw_nn S + 1
  · omega
  · rw [if_neg e] at ha
    have := h a ha
    omega
theorem wf_sr {S : gw_S} (a k r : Nat) (h : gw_wf S) : gw_wf (gw_sr S a k r) := h
theorem wf_X8 {S : gw_S} {a0 : Nat} (h : gw_wf S) : gw_wf (S_X8 S a0) := (wf_sr _ _ _ (wf_new _ _ (wf_sr _ _ _ (wf_new _ _ (wf_sr _ _ _ (wf_new _ _ h))))))
theorem wf_X7 {S : gw_S} {a0 : Nat} (h : gw_wf S) : gw_wf (S_X7 S a0) := (wf_sr _ _ _ (wf_new _ _ (wf_sr _ _ _ (wf_new _ _ (wf_sr _ _ _ (wf_new _ _ h))))))
theorem wf_X0 {S : gw_S} {a0 : Nat} (h : gw_wf S) : gw_wf (S_X0 S a0) := (wf_sr _ _ _ (wf_new _ _ (wf_sr _ _ _ (wf_X7 (wf_new _ _ h)))))
theorem wf_X1 {S : gw_S} {a0 : Nat} (h : gw_wf S) : gw_wf (S_X1 S a0) := (wf_sr _ _ _ (wf_X8 (wf_new _ _ (wf_sr _ _ _ (wf_X8 (wf_new _ _ (wf_sr _ _ _ (wf_X0 (wf_new _ _ h)))))))))
theorem wf_X9 {S : gw_S} {a0 : Nat} (h : gw_wf S) : gw_wf (S_X9 S a0) := (wf_sr _ _ _ (wf_new _ _ (wf_sr _ _ _ (wf_new _ _ (wf_sr _ _ _ (wf_new _ _ h))))))
theorem wf_X2 {S : gw_S} {a0 : Nat} (h : gw_wf S) : gw_wf (S_X2 S a0) := (wf_sr _ _ _ (wf_new _ _ (wf_sr _ _ _ (wf_new _ _ (wf_sr _ _ _ (wf_new _ _ (wf_sr _ _ _ (wf_new _ _ (wf_sr _ _ _ (wf_new _ _ (wf_sr _ _ _ (wf_new _ _ (wf_sr _ _ _ (wf_new _ _ (wf_sr _ _ _ (wf_new _ _ (wf_sr _ _ _ (wf_new _ _ (wf_sr _ _ _ (wf_new _ _ (wf_sr _ _ _ (wf_new _ _ h))))))))))))))))))))))
theorem wf_X4 {S : gw_S} {a0 : Nat} (h : gw_wf S) : gw_wf (S_X4 S a0) := (wf_sr _ _ _ (wf_new _ _ (wf_sr _ _ _ (wf_new _ _ (wf_sr _ _ _ (wf_X8 (wf_new _ _ h)))))))
theorem wf_X3 {S : gw_S} {a0 : Nat} (h : gw_wf S) : gw_wf (S_X3 S a0) := (wf_sr _ _ _ (wf_X1 (wf_new _ _ (wf_sr _ _ _ (wf_X1 (wf_new _ _ (wf_sr _ _ _ (wf_X1 (wf_new _ _ (wf_sr _ _ _ (wf_X2 (wf_new _ _ (wf_sr _ _ _ (wf_X9 (wf_new _ _ (wf_sr _ _ _ (wf_new _ _ (wf_sr _ _ _ (wf_new _ _ (wf_sr _ _ _ (wf_new _ _ (wf_sr _ _ _ (wf_X0 (wf_new _ _ (wf_sr _ _ _ (wf_X8 (wf_new _ _ (wf_sr _ _ _ (wf_X4 (wf_new _ _ h))))))))))))))))))))))))))))))
theorem wf_X5 {S : gw_S} {a0 : Nat} (h : gw_wf S) : gw_wf (S_X5 S a0) := (wf_sr _ _ _ (wf_new _ _ h))
theorem wf_X6 {S : gw_S} {a0 : Nat} (h : gw_wf S) : gw_wf (S_X6 S a0) := (wf_sr _ _ _ (wf_new _ _ (wf_sr _ _ _ (wf_X1 (wf_new _ _ h)))))
theorem wf_pS {S : gw_S} {e k : Nat} (hw : gw_wf S) : gw_wf (gw_pS S e k) := gw_wf_pS hw (wf_X3 (wf_new _ _ hw))
set_option maxRecDepth 4000 in
theorem ok_X10_image {l : Launch} {x : gw_C} {d : Nat} {S : gw_S} {Q : Option Value → gw_S → gw_M → Prop} {a0 n0 : Nat} {μ μ1 : gw_M} (P : Nat → Nat → gw_S → gw_M → Prop) (n B : Nat) (hn : n ≤ 20) (hS0 : gw_sh S 10 a0) (hc : F_X3_copyFrom n0 (a0 + 85) (a0 + 1) μ = some μ1) (h0 : P 0 0 S (gw_up (gw_up μ1 (a0 + 167) 1 0) (a0 + 167) 2 0))
    (hI : ∀ i b S μ, i ≤ n → P i b S μ → gw_sh S 10 a0 ∧ μ (a0 + 83) 2 = nI n ∧ b ≤ B)
    (hst : ∀ i b S μ, i < n → P i b S μ → ∃ b' S' μ', gw_cst n0 (a0 + 167) (a0 + 83) i S μ b b' S' μ' ∧ P (i + 1) b' S' μ')
    (hq : ∀ b S μ, P n b S μ → Q (some (.int (μ (a0 + 1) 7))) S μ) : gw_ok l x (d + 8) sgX10_image (82 * B) (1107 * B) [.ref a0] S μ Q := by
  refine gw_ok_of stX10_image (lv0 := [.ref a0]) (Nat.le_of_ble_eq_true rfl) rfl rfl ?_
  intro K hK
  have k0 := (hS0 0 _ rfl).1
  have r0 := (hS0 0 _ rfl).2.2 (0, 1) (by decide)
  have r1 := (hS0 0 _ rfl).2.2 (1, 83) (by decide)
  have r2 := (hS0 0 _ rfl).2.2 (2, 85) (by decide)
  have r3 := (hS0 0 _ rfl).2.2 (3, 167) (by decide)
  have km := (hS0 85 _ rfl).1
  have kp := (hS0 167 _ rfl).1
  simp only [Nat.add_zero] at k0 r0 r1 r2 r3
  refine hK _ _ _ _ _ _ _ ?_
  rw [fdX10_image_0]
  simp only [bkX10_image_0, gt_nil, gt_aload_n, gt_rfk, gw_nth, gt_get_r, gt_v1, k0, r0, r1, r2, r3, true_and]
  refine ⟨km, rfl, 0, 0, Nat.zero_le _, Nat.zero_le _, ok_X3_copyFrom (gw_sub hS0 3 85 (by decide +kernel)) (gw_sub hS0 3 1 (by decide +kernel)) hc ?_⟩
  simp only [gt_nil, gt_aload_n, gt_rfk, gw_nth, gt_get_r, gt_v1, k0, r0, r1, r2, r3, true_and, Option.toList, List.nil_append, Nat.add_zero]
  refine ⟨kp, rfl, 82 * B, 1107 * B, by omega, by omega, ?_⟩
  refine ok_X5_copyFrom P n B hn (gw_sub hS0 5 167 (by decide +kernel)) h0 (fun i b S μ hi hP => ?_) hst (fun b S μ hP => ?_)
  · obtain ⟨q1, q2, q3⟩ := hI i b S μ hi hP
    exact ⟨gw_sub q1 5 167 (by decide +kernel), gw_sub q1 5 83 (by decide +kernel), q2, q3⟩
  · obtain ⟨q1, q2, q3⟩ := hI n b S μ (Nat.le_refl _) hP
    have k0 := (q1 0 _ rfl).1
    have k1 := (q1 1 _ rfl).1
    have r0 := (q1 0 _ rfl).2.2 (0, 1) (by decide)
    simp only [Nat.add_zero] at k0 r0
    simp only [gt_nil, gt_aload_n, gt_rfk, gw_nth, gt_get_r, gt_get_i, gt_iret, k0, k1, r0, true_and, Option.toList, List.nil_append]
    exact ⟨by omega, by omega, hq _ _ _ hP⟩
set_option maxRecDepth 4000 in
theorem ok_X10_back {l : Launch} {x : gw_C} {d : Nat} {S : gw_S} {Q : Option Value → gw_S → gw_M → Prop} {a0 n0 : Nat} {μ μ1 : gw_M} (P : Nat → Nat → gw_S → gw_M → Prop) (n B : Nat) (hn : n ≤ 20) (hS0 : gw_sh S 10 a0) (hc : F_X3_copyFrom n0 (a0 + 1) (a0 + 85) μ = some μ1) (h0 : P 0 0 S (gw_up (gw_up μ1 (a0 + 83) 1 0) (a0 + 83) 2 0))
    (hI : ∀ i b S μ, i ≤ n → P i b S μ → gw_sh S 10 a0 ∧ μ (a0 + 167) 2 = nI n ∧ b ≤ B)
    (hst : ∀ i b S μ, i < n → P i b S μ → ∃ b' S' μ', gw_cst n0 (a0 + 83) (a0 + 167) i S μ b b' S' μ' ∧ P (i + 1) b' S' μ')
    (hq : ∀ b S μ, P n b S μ → Q (some (.int (μ (a0 + 1) 7))) S μ) : gw_ok l x (d + 8) sgX10_back (82 * B) (1107 * B) [.ref a0] S μ Q := by
  refine gw_ok_of stX10_back (lv0 := [.ref a0]) (Nat.le_of_ble_eq_true rfl) rfl rfl ?_
  intro K hK
  have k0 := (hS0 0 _ rfl).1
  have r0 := (hS0 0 _ rfl).2.2 (0, 1) (by decide)
  have r1 := (hS0 0 _ rfl).2.2 (1, 83) (by decide)
  have r2 := (hS0 0 _ rfl).2.2 (2, 85) (by decide)
  have r3 := (hS0 0 _ rfl).2.2 (3, 167) (by decide)
  have km := (hS0 1 _ rfl).1
  have kp := (hS0 83 _ rfl).1
  simp only [Nat.add_zero] at k0 r0 r1 r2 r3
  refine hK _ _ _ _ _ _ _ ?_
  rw [fdX10_back_0]
  simp only [bkX10_back_0, gt_nil, gt_aload_n, gt_rfk, gw_nth, gt_get_r, gt_v1, k0, r0, r1, r2, r3, true_and]
  refine ⟨km, rfl, 0, 0, Nat.zero_le _, Nat.zero_le _, ok_X3_copyFrom (gw_sub hS0 3 1 (by decide +kernel)) (gw_sub hS0 3 85 (by decide +kernel)) hc ?_⟩
  simp only [gt_nil, gt_aload_n, gt_rfk, gw_nth, gt_get_r, gt_v1, k0, r0, r1, r2, r3, true_and, Option.toList, List.nil_append, Nat.add_zero]
  refine ⟨kp, rfl, 82 * B, 1107 * B, by omega, by omega, ?_⟩
  refine ok_X5_copyFrom P n B hn (gw_sub hS0 5 83 (by decide +kernel)) h0 (fun i b S μ hi hP => ?_) hst (fun b S μ hP => ?_)
  · obtain ⟨q1, q2, q3⟩ := hI i b S μ hi hP
    exact ⟨gw_sub q1 5 83 (by decide +kernel), gw_sub q1 5 167 (by decide +kernel), q2, q3⟩
  · obtain ⟨q1, q2, q3⟩ := hI n b S μ (Nat.le_refl _) hP
    have k0 := (q1 0 _ rfl).1
    have k1 := (q1 1 _ rfl).1
    have r0 := (q1 0 _ rfl).2.2 (0, 1) (by decide)
    simp only [Nat.add_zero] at k0 r0
    simp only [gt_nil, gt_aload_n, gt_rfk, gw_nth, gt_get_r, gt_get_i, gt_iret, k0, k1, r0, true_and, Option.toList, List.nil_append]
    exact ⟨by omega, by omega, hq _ _ _ hP⟩
