/-! ===== the steps kept: push, popInto, copyFrom; image and back ===== -/
theorem gw_ok_wf {l : Launch} {x : gw_C} {d : Nat} {g : gw_Sig} {mc ms : Nat} {as : List Value} {S : gw_S} {μ : gw_M} {Q : Option Value → gw_S → gw_M → Prop} (hc : Cond.code g.1 g.2.1 g.2.2.1 g.2.2.2 ∈ gw_tb) (h : gw_wf S → gw_ok l x d g mc ms as S μ Q) : gw_ok l x d g mc ms as S μ Q :=
  ⟨hc, fun p e a b c s m args below h1 h2 h3 h4 => (h h3.2.1.1).2 p e a b c s m args below h1 h2 h3 h4⟩
def gw_kp (S S' : gw_S) (a0 : Nat) : Prop := ∀ b, b < a0 → gw_kd S' b = gw_kd S b ∧ gw_ln S' b = gw_ln S b ∧ ∀ j, gw_rf S' b j = gw_rf S b j
theorem gw_sh_kp {S S' : gw_S} {c e a0 : Nat} (h : gw_sh S c e) (hk : gw_kp S S' a0) (hle : e + (gw_lay c).length ≤ a0) : gw_sh S' c e := by
  intro k q hq
  have hlen : k < (gw_lay c).length := (List.getElem?_eq_some_iff.mp hq).1
  obtain ⟨a1, a2, a3⟩ := h k q hq
  obtain ⟨b1, b2, b3⟩ := hk (e + k) (by omega)
  exact ⟨b1.trans a1, b2.trans a2, fun r hr => (b3 _).trans (a3 r hr)⟩
theorem gw_lay_kd (c : Nat) : ∀ q ∈ gw_lay c, q.1 < 15 ∧ (q.1 = 14 → q.2.2 = []) := by
  have h11 : ∀ c', c' < 12 → ∀ q ∈ gw_lay c', q.1 < 15 ∧ (q.1 = 14 → q.2.2 = []) := by decide +kernel
  by_cases hc : c < 12
  · exact h11 c hc
  · have e : gw_lay c = gw_lay 11 := by
      unfold gw_lay
      split <;> first | omega | rfl
    rw [e]
    exact h11 11 (by decide)
/-- what stood stands: a row was laid into the array at z -/
theorem gw_sh_mono {S S' : gw_S} {z k r a0 c e : Nat} (hw : gw_wf S) (hk : gw_kp S S' a0) (hn : gw_nn S < a0) (hz : gw_kd S z = 14) (h : gw_sh S c e) : gw_sh (gw_sr S' z k r) c e := by
  intro i q hq
  obtain ⟨a1, a2, a3⟩ := h i q hq
  have hq2 := gw_lay_kd c q (List.mem_of_getElem? hq)
  have hb := hw (e + i) (by rw [a1]; exact hq2.1)
  obtain ⟨b1, b2, b3⟩ := hk (e + i) (by omega)
  refine ⟨by rw [kd_sr]; exact b1.trans a1, by rw [ln_sr]; exact b2.trans a2, fun r' hr => ?_⟩
  rw [rf_sr, if_neg]
  · exact (b3 _).trans (a3 r' hr)
  · rintro ⟨e1, -⟩
    rw [e1, hz] at a1
    rw [hq2.2 a1.symm] at hr
    cases hr
def gw_pR (S : gw_S) (e k : Nat) : Nat := if gw_rf S (e + 1) k = 0 then gw_nn S + 1 else gw_rf S (e + 1) k
def gw_pS (S : gw_S) (e k : Nat) : gw_S := if gw_rf S (e + 1) k = 0 then gw_sr (S_X3 (gw_new S 3 0) (gw_nn S + 1)) (e + 1) k (gw_nn S + 1) else S
def gw_pM (S : gw_S) (μ : gw_M) (e k : Nat) : gw_M := if gw_rf S (e + 1) k = 0 then M_X3 (gw_row μ (gw_nn S + 1) (fun _ => 0)) (gw_nn S + 1) else μ
def gw_pE (μ : gw_M) (e : Nat) : gw_M := if 20 ≤ μ e 2 then gw_up μ e 1 ((μ e 1 + 1) - (μ e 1 + 1) / 20 * 20) else gw_up μ e 2 (μ e 2 + 1)
def gw_sl (μ : gw_M) (e : Nat) : Int32 := (μ e 1 + μ e 2) - (μ e 1 + μ e 2) / 20 * 20
theorem gw_mk3 {S : gw_S} {μ : gw_M} : gw_made (gw_new S 3 0) (gw_row μ (gw_nn S + 1) (fun _ => 0)) (S_X3 (gw_new S 3 0) (gw_nn S + 1)) (M_X3 (gw_row μ (gw_nn S + 1) (fun _ => 0)) (gw_nn S + 1)) 3 (gw_nn S + 1) := by
  have nf := gw_newf (μ := fun _ _ => 0) (c := 3) (a0 := gw_nn S) (m := 0) (S := S) rfl 1 rfl
  exact mk_X3 nf.1 nf.2.1 nf.2.2.1 (fun jj => by simp [gw_row]) nf.2.2.2.2
theorem gw_kp3 {S : gw_S} : gw_kp S (S_X3 (gw_new S 3 0) (gw_nn S + 1)) (gw_nn S + 1) := by
  intro b hb
  obtain ⟨a1, a2, a3, -⟩ := (gw_mk3 (S := S) (μ := fun _ _ => 0)).2.2.2 b hb
  refine ⟨a1.trans ?_, a2.trans ?_, fun j => (a3 j).trans ?_⟩
  · rw [kd_new, if_neg (by omega)]
  · rw [ln_new, if_neg (by omega)]
  · rw [rf_new, if_neg (by omega)]
theorem gw_pS_mono {S : gw_S} {e k : Nat} (hw : gw_wf S) (hE : gw_sh S 5 e) {c e' : Nat} (h : gw_sh S c e') : gw_sh (gw_pS S e k) c e' := by
  unfold gw_pS
  split
  · exact gw_sh_mono hw gw_kp3 (by omega) (hE 1 _ rfl).1 h
  · exact h
theorem gw_pR_sh {S : gw_S} {e k : Nat} (hw : gw_wf S) (hE : gw_sh S 5 e) (hr : gw_rf S (e + 1) k = 0 ∨ gw_sh S 3 (gw_rf S (e + 1) k)) : gw_sh (gw_pS S e k) 3 (gw_pR S e k) := by
  unfold gw_pS gw_pR
  by_cases h0 : gw_rf S (e + 1) k = 0
  · rw [if_pos h0, if_pos h0]
    have hm := gw_mk3 (S := S) (μ := fun _ _ => 0)
    have hb := hw (e + 1) (by rw [(hE 1 _ rfl).1]; decide)
    intro i q hq
    obtain ⟨a1, a2, a3⟩ := hm.2.1 i q hq
    refine ⟨a1, a2, fun r hr => ?_⟩
    rw [rf_sr, if_neg (by omega)]
    exact a3 r hr
  · rw [if_neg h0, if_neg h0]
    exact hr.resolve_left h0
theorem gw_pS_nn {S : gw_S} {e k : Nat} : gw_nn (gw_pS S e k) = if gw_rf S (e + 1) k = 0 then gw_nn S + 82 else gw_nn S := by
  unfold gw_pS
  split
  · rw [nn_sr, (gw_mk3 (S := S) (μ := fun _ _ => 0)).1]
    rfl
  · rfl
theorem gw_pS_rf {S : gw_S} {e k : Nat} (hw : gw_wf S) (hE : gw_sh S 5 e) {b j : Nat} (hb : b ≤ gw_nn S) : gw_rf (gw_pS S e k) b j = if b = e + 1 ∧ j = k then gw_pR S e k else gw_rf S b j := by
  unfold gw_pS gw_pR
  by_cases h0 : gw_rf S (e + 1) k = 0
  · simp only [h0, if_true]
    rw [rf_sr, (gw_kp3 b (by omega)).2.2]
  · simp only [h0, if_false]
    split
    · rename_i h; rw [h.1, h.2]
    · rfl
theorem gw_wf_pS {S : gw_S} {e k : Nat} (hw : gw_wf S) (hw3 : gw_wf (S_X3 (gw_new S 3 0) (gw_nn S + 1))) : gw_wf (gw_pS S e k) := by
  unfold gw_pS
  split
  · exact hw3
  · exact hw
set_option maxRecDepth 4000 in
theorem ok_X5_push {l : Launch} {x : gw_C} {d mc ms : Nat} {S : gw_S} {Q : Option Value → gw_S → gw_M → Prop} {e p n0 k : Nat} {μ μ1 : gw_M} (hE : gw_sh S 5 e) (hp : gw_sh S 3 p) (hk : k < 20) (hsl : gw_sl μ e = nI k) (hr : gw_rf S (e + 1) k = 0 ∨ gw_sh S 3 (gw_rf S (e + 1) k)) (hb : gw_rf S (e + 1) k = 0 → 82 ≤ mc ∧ 1107 ≤ ms) (hc : F_X3_copyFrom n0 (gw_pR S e k) p (gw_pM S μ e k) = some μ1) (hq : Q none (gw_pS S e k) (gw_pE μ1 e)) : gw_ok l x (d + 6) sgX5_push mc ms [.ref e, .ref p] S μ Q := by
  refine gw_ok_wf stX5_push.2.1 (fun hw => ?_)
  refine gw_ok_of stX5_push (lv0 := [.ref e, .ref p, .retAddr 0]) (Nat.le_of_ble_eq_true rfl) rfl rfl ?_
  intro K hK
  have hE0 := (hE 0 _ rfl).1
  have hE1 := (hE 1 _ rfl).1
  have hE1l := (hE 1 _ rfl).2.1
  have hEr := (hE 0 _ rfl).2.2 (0, 1) (by decide)
  have hin : gw_in (nI k) 20 := gw_nI_in hk (by decide)
  have hcl : (nI k).toNatClampNeg = k := nI_clamp (by omega)
  simp only [Nat.add_zero] at hE0 hEr
  have tail : ∀ (S' : gw_S) (μ' : gw_M) (cc ss : Nat), gw_sh S' 5 e → gw_sh S' 3 p → gw_sh S' 3 (gw_pR S e k) → gw_rf S' (e + 1) k = gw_pR S e k → S' = gw_pS S e k → μ' = gw_pM S μ e k → cc ≤ mc → ss ≤ ms → K 35 [.ref e, .ref p, .int (nI k)] [] S' μ' cc ss := by
    intro S' μ' cc ss g1 g2 g3 g4 g5 g6 g7 g8
    have e0 := (g1 0 _ rfl).1
    have e1 := (g1 1 _ rfl).1
    have e1l := (g1 1 _ rfl).2.1
    have er := (g1 0 _ rfl).2.2 (0, 1) (by decide)
    simp only [Nat.add_zero] at e0 er
    refine hK _ _ _ _ _ _ _ ?_
    rw [fdX5_push_35]
    simp only [bkX5_push_35, gt_nil, gt_aload_n, gt_rfk, gw_nth, gt_get_r, gt_get_i, gt_iload_n, gt_ink, gt_aaload, gt_v1, er, e0, e1, e1l, hcl, g4, true_and, or_true, (g3 0 _ rfl).1, Nat.add_zero]
    refine ⟨hin, ?_⟩
    have k3 := (g3 0 _ rfl).1
    simp only [Nat.add_zero] at k3
    refine ⟨k3, rfl, 0, 0, g7, g8, ?_⟩
    refine ok_X3_copyFrom g3 g2 (by rw [g6]; exact hc) ?_
    simp only [gt_nil, gt_aload_n, gt_rfk, gw_nth, gt_get_i, gt_put_i, gt_dup_r, gt_iconst, gt_bipush, gt_iadd, gt_icmp, gt_goto, e0, true_and, Option.toList, List.nil_append, Nat.add_zero]
    refine ⟨fun c => ?_, fun c => ?_⟩
    · have hge : 20 ≤ μ1 e 2 := c
      refine hK _ _ _ _ _ _ _ ?_
      rw [fdX5_push_67]
      simp only [bkX5_push_67, gt_nil, gt_aload_n, gt_rfk, gw_nth, gt_get_i, gt_put_i, gt_iconst, gt_bipush, gt_iadd, gt_irem, e0, true_and]
      refine ⟨by decide, ?_⟩
      refine hK _ _ _ _ _ _ _ ?_
      rw [fdX5_push_80]
      simp only [bkX5_push_80, gt_vret]
      refine ⟨g7, g8, ?_⟩
      rw [g5]
      simpa only [gw_pE, if_pos hge] using hq
    · have hge : ¬ 20 ≤ μ1 e 2 := c
      refine hK _ _ _ _ _ _ _ ?_
      rw [fdX5_push_80]
      simp only [bkX5_push_80, gt_vret]
      refine ⟨g7, g8, ?_⟩
      rw [g5]
      simpa only [gw_pE, if_neg hge] using hq
  refine hK _ _ _ _ _ _ _ ?_
  rw [fdX5_push_0]
  have hsl2 : (μ e 1 + μ e 2) - (μ e 1 + μ e 2) / 20 * 20 = nI k := hsl
  simp only [bkX5_push_0, gt_nil, gt_aload_n, gt_rfk, gw_nth, gw_set, gt_get_i, gt_get_r, gt_iadd, gt_bipush, gt_irem, gt_istore_n, gt_iload_n, gt_ink, gt_aaload, gt_ifnonnull, hE0, hE1, hE1l, hEr, hsl2, hcl, true_and, or_true]
  refine ⟨by decide, hin, fun c => ?_, fun c => ?_⟩
  · refine tail S μ 0 0 hE hp ?_ ?_ ?_ ?_ (Nat.zero_le _) (Nat.zero_le _)
    · rw [gw_pR, if_neg c]; exact hr.resolve_left c
    · rw [gw_pR, if_neg c]
    · rw [gw_pS, if_neg c]
    · rw [gw_pM, if_neg c]
  · obtain ⟨hb1, hb2⟩ := hb c
    have nf := gw_newf (μ := fun _ _ => 0) (c := 3) (a0 := gw_nn S) (m := 0) (S := S) rfl 1 rfl
    simp only [gt_new, gt_dup_r, gt_sp0]
    refine ⟨by omega, by show 0 + 15 ≤ ms; omega, by omega, rfl, 81, 1092, by omega, by show 0 + 15 + 1092 ≤ ms; omega, ctor_X3 nf.1 nf.2.1 nf.2.2.1 (fun jj => by simp [gw_row]) nf.2.2.2.2 (by omega) ?_⟩
    have hm := gw_mk3 (S := S) (μ := μ)
    have hEb := hw (e + 1) (by rw [hE1]; decide)
    have h5 := gw_pS_mono (k := k) hw hE hE
    have h3 := gw_pS_mono (k := k) hw hE hp
    have hR := gw_pR_sh (k := k) hw hE hr
    have hrf := gw_pS_rf (k := k) (j := k) hw hE (b := e + 1) hEb.2
    rw [if_pos ⟨rfl, rfl⟩] at hrf
    have eS : gw_pS S e k = gw_sr (S_X3 (gw_new S 3 0) (gw_nn S + 1)) (e + 1) k (gw_nn S + 1) := by rw [gw_pS, if_pos c]
    have kk1 : gw_kd (S_X3 (gw_new S 3 0) (gw_nn S + 1)) (e + 1) = 14 ∧ gw_ln (S_X3 (gw_new S 3 0) (gw_nn S + 1)) (e + 1) = 20 := ⟨(gw_kp3 (e + 1) (by omega)).1.trans hE1, (gw_kp3 (e + 1) (by omega)).2.1.trans hE1l⟩
    simp only [Option.toList, List.nil_append, gt_aastore, gt_nil, hcl]
    refine ⟨Or.inr ⟨kk1.1, (hm.2.1 0 _ rfl).1⟩, by rw [kk1.2]; exact hin, ?_⟩
    rw [← eS]
    refine tail _ _ _ _ h5 h3 hR hrf rfl ?_ (by omega) (by show 0 + 15 + 1092 ≤ ms; omega)
    rw [gw_pM, if_pos c]
