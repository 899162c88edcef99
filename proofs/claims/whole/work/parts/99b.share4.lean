/-! ===== the share: both sides ===== -/
theorem eX11_share_7 : decode prog_13_method_153_code 7 = .ok (.lconst 0, 1) := by decide +kernel
theorem eX11_share_17 : decode prog_13_method_153_code 17 = .ok (.i2d, 1) := by decide +kernel
theorem eX11_share_19 : decode prog_13_method_153_code 19 = .ok (.invokevirtual 255, 3) := by decide +kernel
theorem eX11_share_22 : decode prog_13_method_153_code 22 = .ok (.i2d, 1) := by decide +kernel
theorem eX11_share_23 : decode prog_13_method_153_code 23 = .ok (.ddiv, 1) := by decide +kernel
def bkX11_share_0 : List gw_E := [(0, 1, .aload_n 0, [0], [], []), (1, 3, .invokevirtual 255, [0, 11, 7225, 7227, 77, 1013], [], [sgX11_exitsAll]), (4, 3, .ifCond .ne 7, [11], [], [])]
def bkX11_share_8 : List gw_E := [(8, 3, .goto 19, [27], [], [])]
def bkX11_share_11 : List gw_E := [(11, 1, .aload_n 0, [0], [], []), (12, 3, .getfield 7, [11, 0, 1, 6073], [], []), (15, 1, .iconst 5, [], [5], []), (16, 1, .iaload, [], [], [])]
def bkX11_share_18 : List gw_E := [(18, 1, .aload_n 0, [0], [], [])]
def bkX11_share_24 : List gw_E := [(24, 3, .invokestatic 322, [1, 0, 8224, 8225, 1018, 0], [], [sgJxe99ae_doubleToLongBits_ccdee]), (27, 1, .lreturn, [], [], [])]
def bkX11_share_27 : List gw_E := [(27, 1, .lreturn, [], [], [])]
theorem ckX11_share : gw_chk RX11 "share" 1 (some .long) prog_13_method_153_code 0 bkX11_share_0 = true ∧ gw_chk RX11 "share" 1 (some .long) prog_13_method_153_code 8 bkX11_share_8 = true ∧ gw_chk RX11 "share" 1 (some .long) prog_13_method_153_code 11 bkX11_share_11 = true ∧ gw_chk RX11 "share" 1 (some .long) prog_13_method_153_code 18 bkX11_share_18 = true ∧ gw_chk RX11 "share" 1 (some .long) prog_13_method_153_code 24 bkX11_share_24 = true ∧ gw_chk RX11 "share" 1 (some .long) prog_13_method_153_code 27 bkX11_share_27 = true := by
  refine ⟨?_, ?_, ?_, ?_, ?_, ?_⟩ <;> decide +kernel
theorem lkX11_share_19 : gw_lk RX11 1 (some .long) 19 (.invokevirtual 255) [0, 11, 7225, 7227, 77, 1013] [] [sgX11_exitsAll] = true := by decide +kernel
section SHARE4A
variable {l : Launch} {x : gw_C} {d mc ms : Nat} {S : gw_S} {μ : gw_M} {Q : gw_Q}
/-- a contract out of a walk with cells as the pure machine has them -/
theorem gw_ok_at {g : gw_Sig} {as lv0 : List Value} (hplain : plainFor g.1 = true) (hcode : Cond.code g.1 g.2.1 g.2.2.1 g.2.2.2 ∈ gw_tb) (hlen : as.length ≤ g.2.2.1) (hpl : gw_plain as = true) (hlv : as ++ List.replicate (g.2.2.1 - as.length) (.retAddr 0) = lv0)
    (body : ∀ (p : Program) (e : Env) (s : State) (m : MethodId) (below : List Frame) (meth : Method) (c : Code) (Z : State → Prop), gw_fx p s m (as.map (gw_v x)).toArray c x g.2.2.1 g.2.1 g.1.cls → meth.name = g.1.name → gw_ret p l e (gw_rm (d + 1) mc ms) s m (as.map (gw_v x)).toArray below meth c Z x g.2.1 g.2.2.2 mc ms Q → gw_at p l e (gw_rm (d + 1) mc ms) s m (as.map (gw_v x)).toArray below meth c Z x g.2.2.1 0 lv0 [] S μ 0 0) : gw_ok l x (d + 1) g mc ms as S μ Q := by
  subst hlv
  refine gw_ok_hand hplain hcode (by rw [gw_sl_len x as hpl]; exact hlen) ?_
  intro p e s m below meth c Z ls F hnm hret hl hrep
  refine body p e s m below meth c Z F hnm hret s.heap [] ls hrep ⟨hl.1, hl.2.1, ?_, fun i => ?_, fun i hi => ?_⟩
  · simp only [List.length_append, List.length_replicate]
    omega
  · rw [gw_nth_app]
    exact gw_plain_nth as hpl i
  · rw [gw_nth_app] at hi ⊢
    have := gw_args_mem x as 0 hpl i hi
    rw [Nat.zero_add] at this
    exact hl.2.2 _ this
end SHARE4A
section SHARE4B
variable {p : Program} {l : Launch} {e : Env} {R : Room} {s : State} {m : MethodId} {args : Array Value} {below : List Frame} {meth : Method} {c : Code} {Z : State → Prop} {x : gw_C} {nL : Nat} {cb : ByteArray} {own : String}
variable {d mc ms pc cc ss : Nat} {rt : Option FieldType} {lv st : List Value} {S : gw_S} {μ : gw_M} {iv : List Int32}
set_option maxHeartbeats 4000000 in
/-- a call, whatever lies below on the stack -/
theorem ga_iv {n ci a t1 t2 t3 t4 j mc' ms' : Nat} {g : gw_Sig} {as rest : List Value} (F : gw_fx p s m args c x nL cb own) (hRm : mc ≤ R.cells ∧ ms ≤ R.slots) (hRf : d + 1 ≤ R.frames ∧ 40 * d + 40 ≤ R.locals) (hd : decode cb pc = .ok (.invokevirtual j, 3)) (hlk : gw_lk own nL rt pc (.invokevirtual j) [n, ci, t1, t2, t3, t4] iv [g] = true) (hka : gw_kd S a = ci) (has : as.length = n) (hsum : ((rest.map (gw_v x)).map fun v => v.category).sum ≤ 8) (hm1 : cc + mc' ≤ mc) (hm2 : ss + ms' ≤ ms)
    (hok : gw_ok l x d g mc' ms' (.ref a :: as) S μ (fun r S' μ' => gw_at p l e R s m args below meth c Z x nL (pc + 3) lv (r.toList ++ rest) S' μ' (cc + mc') (ss + ms'))) : gw_at p l e R s m args below meth c Z x nL pc lv (as.reverse ++ .ref a :: rest) S μ cc ss := by
  obtain ⟨hcode, hM⟩ := hok
  simp only [gw_lk] at hlk
  cases hq : vwCl[ci]? with
  | none => simp [hq] at hlk
  | some q =>
    simp only [hq, Bool.and_eq_true, decide_eq_true_eq] at hlk
    obtain ⟨⟨⟨⟨⟨c0, c1⟩, c2⟩, c3⟩, c4⟩, c5⟩ := hlk
    obtain ⟨cd, cl⟩ := gw_call_spec c1
    intro H locs ls hr hl
    obtain ⟨g1, g2, hc, hra⟩ := gw_kd_ok hr hka (by have := (gw_cls hq).2.2.2.2; omega)
    have hob := hc.2.2.2 q (by rw [hka]; exact hq)
    rw [hka] at hob
    obtain ⟨cell, q1, q2, q3, q4⟩ := hob
    refine gw_callrow (mc' := mc') (ms' := ms') (rest := rest.map (gw_v x)) (va_runV (bytes := g.2.1) (maxL := g.2.2.1) (ret := g.2.2.2) (n := n) (As := as.map (gw_v x)) (b := x.1 + a) (C := q.1) ⟨F.1, F.2.1, F.2.2.1, F.2.2.2.1, F.2.2.2.2.1⟩ hM ?_ ⟨gw_blind x _ S μ, ⟨cell, q1, by rw [q3]; rfl, ?_⟩, ?_⟩ rfl ?_ hl.1 ?_ (lv_room hsum) hd ⟨by omega, by omega⟩) hr.2.2.2.2.2 ?_
    · exact ⟨callB_of n F.2.2.2.2.1 (gw_good hcode) rfl rfl rfl (by rw [c0]; exact F.2.2.2.2.1 _ (gw_is_spec c5)) (F.2.2.2.2.1 _ (gw_is_spec c2)) cd ⟨hRf.1, by show 8 + (g.2.2.1 + 11) + 40 * d ≤ R.locals; omega⟩, F.2.2.2.2.1 _ (gw_is_spec c3), F.2.2.2.2.1 _ (gw_is_spec c4)⟩
    · rw [q2]; exact (F.2.2.2.2.2.1.1 ci q hq).2.1
    · have := gw_pre (as := (gw_v x (.ref a)) :: as.map (gw_v x)) hr F.2.2.2.2.2
      rw [hra] at this
      simpa only [List.map_cons, hra] using this
    · simp only [List.length_map]
      exact has
    · show (as.reverse ++ .ref a :: rest).map (gw_v x) = _
      rw [List.map_append, List.map_cons, List.map_reverse, hra]
    · intro r S' μ' H1 locs1 hq' hr'
      rw [gw_ret_map]
      exact hq' H1 locs1 ls hr' hl
theorem ga_i2d (F : gw_fx p s m args c x nL cb own) {v : Int32} (hd : decode cb pc = .ok (.i2d, 1)) (h : gw_at p l e R s m args below meth c Z x nL (pc + 1) lv (.double (FP.i2d v) :: st) S μ cc ss) : gw_at p l e R s m args below meth c Z x nL pc lv (.int v :: st) S μ cc ss :=
  fun H locs ls hr hl => lv_i2d F.1 F.2.1 hd (h H locs ls hr hl)
theorem ga_ddiv (F : gw_fx p s m args c x nL cb own) {v w : UInt64} (hd : decode cb pc = .ok (.ddiv, 1)) (hn : vf_n64 (FP.ddiv v w)) (h : gw_at p l e R s m args below meth c Z x nL (pc + 1) lv (.double (FP.ddiv v w) :: st) S μ cc ss) : gw_at p l e R s m args below meth c Z x nL pc lv (.double w :: .double v :: st) S μ cc ss :=
  fun H locs ls hr hl => lv_ddiv F.1 F.2.1 hd hn (h H locs ls hr hl)
theorem ga_lconst (F : gw_fx p s m args c x nL cb own) (hd : decode cb pc = .ok (.lconst 0, 1)) (h : gw_at p l e R s m args below meth c Z x nL (pc + 1) lv (.long 0 :: st) S μ cc ss) : gw_at p l e R s m args below meth c Z x nL pc lv st S μ cc ss :=
  fun H locs ls hr hl => lv_lconst F.1 F.2.1 hd rfl (h H locs ls hr hl)
end SHARE4B
theorem gt_lret {ok : gw_Ok} {x : gw_C} {mc ms : Nat} {Q : gw_Q} {K : Nat → gw_Kt} {pc pc' n : Nat} {an : List Nat} {iv : List Int32} {sg : List gw_Sig} {es : List gw_E} {ls : List Value} {S : gw_S} {μ : gw_M} {cc ss : Nat} {v : Int64} : gw_blk ok x mc ms Q K ((pc, n, .lreturn, an, iv, sg) :: es) pc' ls [.long v] S μ cc ss = (cc ≤ mc ∧ ss ≤ ms ∧ Q (some (.long v)) S μ) := rfl
theorem fp_zero {a : Nat} (h1 : 1 ≤ a) (h2 : a < 2 ^ 31) : FP.ddiv (FP.i2d (nI 0)) (FP.i2d (nI a)) = 0 := by
  show FP.Core.ddiv (FP.Core.i2d (nI 0)) (FP.Core.i2d (nI a)) = 0
  obtain ⟨ka, D, a1, a2, a3, a4, a5, a6, a7⟩ := fp_i2d h1 h2
  rw [a7, show FP.Core.i2d (nI 0) = 0 by decide +kernel]
  unfold FP.Core.ddiv FP.Core.div
  rw [fp_decode (by omega) (by omega) (by omega), show FP.Core.decode FP.Core.b64 (UInt64.toNat 0) = .fin false 0 (-1074) by decide +kernel]
  simp only [FP.Core.quotient]
  rw [if_neg (by omega)]
  unfold FP.Core.roundRatio
  rw [if_pos rfl]
  decide +kernel
section SHARE4C
variable {l : Launch} {x : gw_C} {d a0 : Nat} {S : gw_S} {μ : gw_M} {Q : gw_Q}
theorem ok_X10_share (hS0 : gw_sh S 10 a0) {p a : Nat} (h5 : μ (a0 + 31) 0 = nI p) (h6 : μ (a0 + 31) 0 + μ (a0 + 31) 1 = nI a) (hpa : p ≤ a) (ha : a < 2 ^ 31) (hq : Q (some (.long (fbits p a))) S μ) : gw_ok l x (d + 2) sgX10_share 0 0 [.ref a0] S μ Q := by
  refine gw_ok_of stX10_share (lv0 := [.ref a0]) (Nat.le_of_ble_eq_true rfl) rfl rfl ?_
  intro K hK
  have ka0_0 : gw_kd S a0 = 10 := (hS0 0 _ rfl).1
  have ra0_0_0 : gw_rf S a0 0 = a0 + 1 := (hS0 0 _ rfl).2.2 (0, 1) (by decide)
  have ka0_1 : gw_kd S (a0 + 1) = 3 := (hS0 1 _ rfl).1
  have ra0_1_14 : gw_rf S (a0 + 1) 14 = a0 + 26 := (hS0 1 _ rfl).2.2 (14, 26) (by decide)
  have ka0_26 : gw_kd S (a0 + 26) = 2 := (hS0 26 _ rfl).1
  have ra0_26_4 : gw_rf S (a0 + 26) 4 = a0 + 31 := (hS0 26 _ rfl).2.2 (4, 31) (by decide)
  have ka0_31 : gw_kd S (a0 + 31) = 12 := (hS0 31 _ rfl).1
  have la0_31 : gw_ln S (a0 + 31) = 2 := (hS0 31 _ rfl).2.1
  refine hK _ _ _ _ _ _ _ ?_
  rw [fdX10_share_0]
  simp only [gt_nil, true_and, eq_self, gt_aload_n, gt_rfk, gw_nth, gt_get_r, gt_get_i, gt_get_z, gt_iconst, gt_iaload, gt_v0, gt_s2_0, gt_lret, bkX10_share_0, ka0_0, ra0_0_0, ka0_1, ra0_1_14, ka0_26, ra0_26_4, ka0_31, la0_31, (show Int32.toNatClampNeg 0 = 0 from rfl), h5]
  refine ⟨(⟨by decide, by decide⟩ : gw_in 0 2), ?_⟩
  refine ⟨rfl, 0, 0, Nat.le_refl _, Nat.le_refl _, ok_X2_allExits (n0 := 0) (r := nI a) (gw_sub hS0 2 26 (by decide +kernel)) (congrArg some h6) ?_⟩
  simp only [Option.toList, List.cons_append, List.nil_append, gt_s2_0, gt_lret, Nat.add_zero]
  refine ⟨rfl, 0, 0, Nat.le_refl _, Nat.le_refl _, ok_X10_bitsOfQuotient (d := d) hpa ha ?_⟩
  simp only [Option.toList, List.cons_append, List.nil_append, gt_lret, Nat.add_zero]
  exact ⟨Nat.le_refl _, Nat.le_refl _, hq⟩
set_option maxHeartbeats 4000000 in
theorem ok_X11_share (hS0 : gw_sh S 11 a0) {p a : Nat} (h5 : μ (a0 + 1) 5 = nI p) (h6 : μ (a0 + 1) 5 + μ (a0 + 1) 6 = nI a) (hpa : p ≤ a) (ha : a < 2 ^ 31) (hq : Q (some (.long (fbits p a))) S μ) : gw_ok l x (d + 3) sgX11_share 0 0 [.ref a0] S μ Q := by
  refine gw_ok_at (lv0 := [.ref a0]) (by decide +kernel) (gw_mem2 (i := 8223) rfl rfl) (Nat.le_of_ble_eq_true rfl) rfl rfl ?_
  intro pg e s m below meth c Z F hnm hret
  obtain ⟨c0, c8, c11, c18, c24, c27⟩ := ckX11_share
  have ka0_0 : gw_kd S a0 = 11 := (hS0 0 _ rfl).1
  have ra0_0_0 : gw_rf S a0 0 = a0 + 1 := (hS0 0 _ rfl).2.2 (0, 1) (by decide)
  have ka0_1 : gw_kd S (a0 + 1) = 12 := (hS0 1 _ rfl).1
  have la0_1 : gw_ln S (a0 + 1) = 20813 := (hS0 1 _ rfl).2.1
  have hRm : 0 ≤ (gw_rm (d + 2 + 1) 0 0).cells ∧ 0 ≤ (gw_rm (d + 2 + 1) 0 0).slots := ⟨Nat.zero_le _, Nat.zero_le _⟩
  have hRf : d + 2 + 1 ≤ (gw_rm (d + 2 + 1) 0 0).frames ∧ 40 * (d + 2) + 40 ≤ (gw_rm (d + 2 + 1) 0 0).locals := ⟨Nat.le_refl _, by show 40 * (d + 2) + 40 ≤ 40 * (d + 2 + 1); omega⟩
  have bl : ∀ (es : List gw_E) (pc : Nat) (lv st : List Value), gw_chk RX11 "share" 1 (some .long) prog_13_method_153_code pc es = true → gw_blk (gw_ok l x (d + 2)) x 0 0 Q (gw_at pg l e (gw_rm (d + 2 + 1) 0 0) s m (([.ref a0] : List Value).map (gw_v x)).toArray below meth c Z x 1) es pc lv st S μ 0 0 → gw_at pg l e (gw_rm (d + 2 + 1) 0 0) s m (([.ref a0] : List Value).map (gw_v x)).toArray below meth c Z x 1 pc lv st S μ 0 0 := by
    intro es pc lv st hc hb
    refine gw_blk_sound F hRm hRf hret (fun _ _ _ _ _ _ _ h => h) es pc lv st S μ 0 0 ?_ hb
    rw [hnm]
    exact hc
  have k27 : ∀ v, Q (some (.long v)) S μ → gw_at pg l e (gw_rm (d + 2 + 1) 0 0) s m (([.ref a0] : List Value).map (gw_v x)).toArray below meth c Z x 1 27 [.ref a0] [.long v] S μ 0 0 := by
    intro v hv
    refine bl bkX11_share_27 27 _ _ c27 ?_
    simp only [bkX11_share_27, gt_lret]
    exact ⟨Nat.le_refl _, Nat.le_refl _, hv⟩
  have k24 : ∀ q : UInt64, FP.Core.decode FP.Core.b64 q.toNat ≠ .nan → Q (some (.long q.toInt64)) S μ → gw_at pg l e (gw_rm (d + 2 + 1) 0 0) s m (([.ref a0] : List Value).map (gw_v x)).toArray below meth c Z x 1 24 [.ref a0] [.double q] S μ 0 0 := by
    intro q hn hv
    refine bl bkX11_share_24 24 _ _ c24 ?_
    simp only [bkX11_share_24, gt_s1_0]
    refine ⟨rfl, 0, 0, Nat.le_refl _, Nat.le_refl _, ok_doubleToLongBits (d := d) hn ?_⟩
    simp only [Option.toList, List.cons_append, List.nil_append, gt_lret, Nat.add_zero]
    exact ⟨Nat.le_refl _, Nat.le_refl _, hv⟩
  refine bl bkX11_share_0 0 _ _ c0 ?_
  simp only [bkX11_share_0, gt_nil, gt_aload_n, gt_rfk, gw_nth, gt_v0, ka0_0, true_and]
  refine ⟨rfl, 0, 0, Nat.le_refl _, Nat.le_refl _, ok_X11_exitsAll (d := d + 1) (n0 := 0) (r := nI a) hS0 (congrArg some h6) ?_⟩
  simp only [Option.toList, List.cons_append, List.nil_append, gt_if, gt_nil, Nat.add_zero]
  refine ⟨fun hc => ?_, fun hc => ?_⟩
  · have ha1 : 1 ≤ a := by
      apply Classical.byContradiction
      intro hz
      exact hc (by rw [show a = 0 by omega]; rfl)
    refine bl bkX11_share_11 11 _ _ c11 ?_
    simp only [bkX11_share_11, gt_nil, true_and, eq_self, gt_aload_n, gt_rfk, gw_nth, gt_get_r, gt_get_i, gt_get_z, gt_iconst, gt_iaload, ka0_0, ra0_0_0, ka0_1, la0_1, (show Int32.toNatClampNeg 5 = 5 from rfl), h5]
    refine ⟨(⟨by decide, by decide⟩ : gw_in 5 20813), ?_⟩
    refine ga_i2d F eX11_share_17 ?_
    refine bl bkX11_share_18 18 _ _ c18 ?_
    simp only [bkX11_share_18, gt_nil, gt_aload_n, gt_rfk, gw_nth]
    refine ga_iv (as := []) (mc' := 0) (ms' := 0) (mc := 0) (ms := 0) F hRm hRf eX11_share_19 lkX11_share_19 ka0_0 rfl (show 2 ≤ 8 by decide) (Nat.le_refl _) (Nat.le_refl _) (ok_X11_exitsAll (d := d + 1) (n0 := 0) (r := nI a) hS0 (congrArg some h6) ?_)
    refine ga_i2d F eX11_share_22 ?_
    by_cases hp0 : p = 0
    · subst hp0
      have hz := fp_zero ha1 ha
      refine ga_ddiv F eX11_share_23 (by rw [hz]; unfold vf_n64; decide +kernel) ?_
      rw [hz]
      refine k24 0 (by decide +kernel) ?_
      unfold fbits at hq
      rw [if_pos rfl] at hq
      exact hq
    · obtain ⟨E, T, hE1, hE2, hT, hdiv⟩ := fp_div (show 1 ≤ p by omega) hpa ha
      replace hdiv : FP.ddiv (FP.i2d (nI p)) (FP.i2d (nI a)) = nrm E T := hdiv
      refine ga_ddiv F eX11_share_23 (by rw [hdiv]; exact nrm_n64 (by omega) hT) ?_
      rw [hdiv]
      refine k24 _ (by rw [fp_decode (by omega) (by omega) hT]; exact fun z => by cases z) ?_
      unfold fbits at hq
      rw [if_neg hp0, hdiv] at hq
      exact hq
  · have ha0 : a = 0 := nI_inj (b := 0) (by omega) (by decide) (Classical.not_not.mp hc)
    refine ga_lconst F eX11_share_7 ?_
    refine bl bkX11_share_8 8 _ _ c8 ?_
    simp only [bkX11_share_8, gt_goto]
    refine k27 0 ?_
    unfold fbits at hq
    rw [if_pos (by omega)] at hq
    exact hq
end SHARE4C
/-- the share: one answer -/
theorem pr_share {b A m : Nat} {S : gw_S} {M : gw_M} (hS : SH S A m) (hR : R2 b S A m M M) : ∃ r : Int64, ∀ (l : Launch) (x : gw_C) (d : Nat) (Q : gw_Q), Q (some (.long r)) S M → gw_ok l x (d + 16) sgX10_share 0 0 [.ref A] S M Q ∧ gw_ok l x (d + 16) sgX11_share 0 0 [.ref m] S M Q := by
  obtain ⟨L3, L2, g⟩ := R2_G hR
  obtain ⟨n5, n6, q1, q2, q3, q4, q5, q6⟩ : gq_X b (A + 1) M (M (m + 1)) := G_q g 6 (by decide)
  have hb := G_b g
  have a1 : M (A + 31) 0 = nI n5 := (G_rd g (i := 5) (c := 30) (j := 0) (by decide +kernel)).symm.trans q1
  have a2 : M (A + 31) 1 = nI n6 := (G_rd g (i := 6) (c := 30) (j := 1) (by decide +kernel)).symm.trans q2
  refine ⟨fbits n5 (n5 + n6), fun l x d Q hq => ⟨ok_X10_share (d := d + 14) hS.2.1 a1 (by rw [a1, a2, nI_add]) (by omega) (by omega) hq, ok_X11_share (d := d + 13) hS.2.2.1 q1 (by rw [q1, q2, nI_add]) (by omega) (by omega) hq⟩⟩
