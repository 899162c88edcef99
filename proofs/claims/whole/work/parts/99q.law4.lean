/-! ===== the law: its beginning ===== -/
def LW (K : Nat → gw_Kt) : Prop := ∀ (pc : Nat) (lv st : List Value) (S : gw_S) (μ : gw_M) (cc ss : Nat), (gw_wf S → K pc lv st S μ cc ss) → K pc lv st S μ cc ss
theorem len10 : (gw_lay 10).length = 268 ∧ (gw_inl 10).length = 268 := by decide +kernel
theorem law_start {l : Launch} {x : gw_C} {K : Nat → gw_Kt} {L : Nat} (hB : LB l x K) (hV : LV l x K 269) (hW : LW K) (hx : x.2.2.2.2.2.2.2.1 = L) (hL : L ≤ 2560) : K 0 [.retAddr 1, .retAddr 0, .retAddr 0, .retAddr 0] [] gw_S0 (fun _ _ => 0) 0 0 := by
  refine hB bkL_0 0 _ _ _ _ _ _ ckL_0 ?_
  have nf := gw_newf (S := gw_S0) (μ := fun _ _ => 0) (c := 10) (a0 := 0) (m := 0) rfl 1 rfl
  have hn0 : gw_nn gw_S0 = 0 := rfl
  simp only [bkL_0, gt_new, gt_dup_r, gt_sp0, hn0, Nat.zero_add]
  refine ⟨by decide, by decide, by decide, rfl, 267, 3597, by decide, by decide, ctorM_X10 (d := 10) (a0 := 1) nf.1 nf.2.1 nf.2.2.1 (fun jj => by simp [gw_row]) nf.2.2.2.2 (by decide) (fun S1 μ1 hm z1 y1 => ?_)⟩
  have hn1 : gw_nn S1 = 268 := by rw [hm.1, len10.1]
  have nf2 := gw_newf (S := S1) (μ := fun _ _ => 0) (c := 11) (a0 := 0) (m := 268) (by rw [hn1]) 269 rfl
  obtain ⟨s', e1, e2, e3, e4⟩ := in_all (n := 1000) (m := 269) (Nat.le_refl _) (gw_row μ1 269 (fun _ => 0))
  simp only [Option.toList, List.nil_append, gt_astore_n, gw_set, gt_new, gt_dup_r, gt_sp0, hn1]
  refine ⟨by decide, by decide, by decide, rfl, 5, 42665, by decide, by decide, ctor_X11 (d := 13) (a0 := 269) (n0 := 1000) nf2.1 nf2.2.1 nf2.2.2.1 (fun jj => by simp [gw_row]) nf2.2.2.2.2 (by decide) e1 (fun S2 g1 g2 g3 => ?_)⟩
  simp only [Option.toList, List.nil_append, gt_astore_n, gw_set, gt_iconst, gt_istore_n, gt_nil]
  refine hW _ _ _ _ _ _ _ (fun hwf => ?_)
  have kept : ∀ z, z < 269 → gw_kd S2 z = gw_kd S1 z ∧ gw_ln S2 z = gw_ln S1 z ∧ ∀ j, gw_rf S2 z j = gw_rf S1 z j := by
    intro z hz
    obtain ⟨a1, a2, a3⟩ := g3 z hz
    rw [kd_new, if_neg (by rw [hn1]; omega)] at a1
    rw [ln_new, if_neg (by rw [hn1]; omega)] at a2
    refine ⟨a1, a2, fun j => ?_⟩
    rw [a3 j, rf_new, if_neg (by rw [hn1]; omega)]
  have hc0 : gw_c0 s' 10 1 := by
    intro k row hr j v hv
    have hk : k < 268 := by rw [← len10.2]; exact (List.getElem?_eq_some_iff.mp hr).1
    rw [e2 (1 + k) j (by omega)]
    show (if 1 + k = 269 then (0 : Int32) else μ1 (1 + k) j) = v
    rw [if_neg (by omega)]
    exact hm.2.2.1 k row hr j v hv
  have hnl : nul S2 1 ≤ 40 := nz_n _ 40
  have f10 : gw_nf 10 = 6 := rfl
  have f11 : gw_nf 11 = 10 := rfl
  exact law_loop hB hV hx hL 512 0 0 _ _ S2 s' (by omega) (by omega) (st_SH hwf (sh_kept (b := 269) hm.2.1 (by rw [len10.1]; decide) kept) g2 (by decide) (by rw [g1]; decide) (fun j => ((kept 85 (by decide)).2.2 j).trans (z1 j)) (fun j => ((kept 169 (by decide)).2.2 j).trans (y1 j))) (st_R2 hc0 e3 e4) (by decide) (by omega) (by omega)
