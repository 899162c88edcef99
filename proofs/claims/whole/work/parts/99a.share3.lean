/-! ===== methods with doubles, walked by hand ===== -/
theorem eX10_bitsOfQuotient_0 : decode prog_1_method_88_code 0 = .ok (.iload_n 0, 1) := by decide +kernel
theorem eX10_bitsOfQuotient_1 : decode prog_1_method_88_code 1 = .ok (.ifCond .le 8, 3) := by decide +kernel
theorem eX10_bitsOfQuotient_4 : decode prog_1_method_88_code 4 = .ok (.iload_n 1, 1) := by decide +kernel
theorem eX10_bitsOfQuotient_5 : decode prog_1_method_88_code 5 = .ok (.iload_n 0, 1) := by decide +kernel
theorem eX10_bitsOfQuotient_6 : decode prog_1_method_88_code 6 = .ok (.if_icmp .ge 5, 3) := by decide +kernel
theorem eX10_bitsOfQuotient_9 : decode prog_1_method_88_code 9 = .ok (.lconst 0, 1) := by decide +kernel
theorem eX10_bitsOfQuotient_10 : decode prog_1_method_88_code 10 = .ok (.lreturn, 1) := by decide +kernel
theorem eX10_bitsOfQuotient_11 : decode prog_1_method_88_code 11 = .ok (.iload_n 0, 1) := by decide +kernel
theorem eX10_bitsOfQuotient_12 : decode prog_1_method_88_code 12 = .ok (.i2d, 1) := by decide +kernel
theorem eX10_bitsOfQuotient_13 : decode prog_1_method_88_code 13 = .ok (.iload_n 1, 1) := by decide +kernel
theorem eX10_bitsOfQuotient_14 : decode prog_1_method_88_code 14 = .ok (.i2d, 1) := by decide +kernel
theorem eX10_bitsOfQuotient_15 : decode prog_1_method_88_code 15 = .ok (.ddiv, 1) := by decide +kernel
theorem eX10_bitsOfQuotient_16 : decode prog_1_method_88_code 16 = .ok (.dstore_n 2, 1) := by decide +kernel
theorem eX10_bitsOfQuotient_17 : decode prog_1_method_88_code 17 = .ok (.ldc2_w 431, 3) := by decide +kernel
theorem eX10_bitsOfQuotient_20 : decode prog_1_method_88_code 20 = .ok (.lstore 4, 2) := by decide +kernel
theorem eX10_bitsOfQuotient_22 : decode prog_1_method_88_code 22 = .ok (.iconst 0, 1) := by decide +kernel
theorem eX10_bitsOfQuotient_23 : decode prog_1_method_88_code 23 = .ok (.istore 6, 2) := by decide +kernel
theorem eX10_bitsOfQuotient_25 : decode prog_1_method_88_code 25 = .ok (.iload 6, 2) := by decide +kernel
theorem eX10_bitsOfQuotient_27 : decode prog_1_method_88_code 27 = .ok (.bipush 32, 2) := by decide +kernel
theorem eX10_bitsOfQuotient_29 : decode prog_1_method_88_code 29 = .ok (.if_icmp .ge 27, 3) := by decide +kernel
theorem eX10_bitsOfQuotient_32 : decode prog_1_method_88_code 32 = .ok (.dload_n 2, 1) := by decide +kernel
theorem eX10_bitsOfQuotient_33 : decode prog_1_method_88_code 33 = .ok (.dconst 1, 1) := by decide +kernel
theorem eX10_bitsOfQuotient_34 : decode prog_1_method_88_code 34 = .ok (.dcmp .g, 1) := by decide +kernel
theorem eX10_bitsOfQuotient_35 : decode prog_1_method_88_code 35 = .ok (.ifCond .ge 21, 3) := by decide +kernel
theorem eX10_bitsOfQuotient_38 : decode prog_1_method_88_code 38 = .ok (.dload_n 2, 1) := by decide +kernel
theorem eX10_bitsOfQuotient_39 : decode prog_1_method_88_code 39 = .ok (.ldc2_w 433, 3) := by decide +kernel
theorem eX10_bitsOfQuotient_42 : decode prog_1_method_88_code 42 = .ok (.dmul, 1) := by decide +kernel
theorem eX10_bitsOfQuotient_43 : decode prog_1_method_88_code 43 = .ok (.dstore_n 2, 1) := by decide +kernel
theorem eX10_bitsOfQuotient_44 : decode prog_1_method_88_code 44 = .ok (.lload 4, 2) := by decide +kernel
theorem eX10_bitsOfQuotient_46 : decode prog_1_method_88_code 46 = .ok (.lconst 1, 1) := by decide +kernel
theorem eX10_bitsOfQuotient_47 : decode prog_1_method_88_code 47 = .ok (.lsub, 1) := by decide +kernel
theorem eX10_bitsOfQuotient_48 : decode prog_1_method_88_code 48 = .ok (.lstore 4, 2) := by decide +kernel
theorem eX10_bitsOfQuotient_50 : decode prog_1_method_88_code 50 = .ok (.iinc 6 1, 3) := by decide +kernel
theorem eX10_bitsOfQuotient_53 : decode prog_1_method_88_code 53 = .ok (.goto (-28), 3) := by decide +kernel
theorem eX10_bitsOfQuotient_56 : decode prog_1_method_88_code 56 = .ok (.dload_n 2, 1) := by decide +kernel
theorem eX10_bitsOfQuotient_57 : decode prog_1_method_88_code 57 = .ok (.dconst 1, 1) := by decide +kernel
theorem eX10_bitsOfQuotient_58 : decode prog_1_method_88_code 58 = .ok (.dsub, 1) := by decide +kernel
theorem eX10_bitsOfQuotient_59 : decode prog_1_method_88_code 59 = .ok (.ldc2_w 435, 3) := by decide +kernel
theorem eX10_bitsOfQuotient_62 : decode prog_1_method_88_code 62 = .ok (.dmul, 1) := by decide +kernel
theorem eX10_bitsOfQuotient_63 : decode prog_1_method_88_code 63 = .ok (.d2l, 1) := by decide +kernel
theorem eX10_bitsOfQuotient_64 : decode prog_1_method_88_code 64 = .ok (.lstore 6, 2) := by decide +kernel
theorem eX10_bitsOfQuotient_66 : decode prog_1_method_88_code 66 = .ok (.lload 4, 2) := by decide +kernel
theorem eX10_bitsOfQuotient_68 : decode prog_1_method_88_code 68 = .ok (.bipush 52, 2) := by decide +kernel
theorem eX10_bitsOfQuotient_70 : decode prog_1_method_88_code 70 = .ok (.lshl, 1) := by decide +kernel
theorem eX10_bitsOfQuotient_71 : decode prog_1_method_88_code 71 = .ok (.lload 6, 2) := by decide +kernel
theorem eX10_bitsOfQuotient_73 : decode prog_1_method_88_code 73 = .ok (.ladd, 1) := by decide +kernel
theorem eX10_bitsOfQuotient_74 : decode prog_1_method_88_code 74 = .ok (.lreturn, 1) := by decide +kernel
theorem eJxe99ae_isNaN_b9ae7_0 : decode prog_14_method_6_code 0 = .ok (.dload_n 0, 1) := by decide +kernel
theorem eJxe99ae_isNaN_b9ae7_1 : decode prog_14_method_6_code 1 = .ok (.dload_n 0, 1) := by decide +kernel
theorem eJxe99ae_isNaN_b9ae7_2 : decode prog_14_method_6_code 2 = .ok (.dcmp .l, 1) := by decide +kernel
theorem eJxe99ae_isNaN_b9ae7_3 : decode prog_14_method_6_code 3 = .ok (.ifCond .eq 7, 3) := by decide +kernel
theorem eJxe99ae_isNaN_b9ae7_6 : decode prog_14_method_6_code 6 = .ok (.iconst 1, 1) := by decide +kernel
theorem eJxe99ae_isNaN_b9ae7_7 : decode prog_14_method_6_code 7 = .ok (.goto 4, 3) := by decide +kernel
theorem eJxe99ae_isNaN_b9ae7_10 : decode prog_14_method_6_code 10 = .ok (.iconst 0, 1) := by decide +kernel
theorem eJxe99ae_isNaN_b9ae7_11 : decode prog_14_method_6_code 11 = .ok (.ireturn, 1) := by decide +kernel
theorem eJxe99ae_doubleToLongBits_ccdee_0 : decode prog_14_method_23_code 0 = .ok (.dload_n 0, 1) := by decide +kernel
theorem eJxe99ae_doubleToLongBits_ccdee_1 : decode prog_14_method_23_code 1 = .ok (.invokestatic 122, 3) := by decide +kernel
theorem eJxe99ae_doubleToLongBits_ccdee_4 : decode prog_14_method_23_code 4 = .ok (.ifCond .ne 8, 3) := by decide +kernel
theorem eJxe99ae_doubleToLongBits_ccdee_7 : decode prog_14_method_23_code 7 = .ok (.dload_n 0, 1) := by decide +kernel
theorem eJxe99ae_doubleToLongBits_ccdee_8 : decode prog_14_method_23_code 8 = .ok (.invokestatic 134, 3) := by decide +kernel
theorem eJxe99ae_doubleToLongBits_ccdee_11 : decode prog_14_method_23_code 11 = .ok (.lreturn, 1) := by decide +kernel
theorem eJxe99ae_doubleToLongBits_ccdee_12 : decode prog_14_method_23_code 12 = .ok (.ldc2_w 137, 3) := by decide +kernel
theorem eJxe99ae_doubleToLongBits_ccdee_15 : decode prog_14_method_23_code 15 = .ok (.lreturn, 1) := by decide +kernel
section SHARE3
variable {l : Launch} {x : gw_C} {d mc ms : Nat} {S : gw_S} {μ : gw_M} {Q : gw_Q}
set_option maxHeartbeats 4000000 in
/-- a contract out of a walk of one's own -/
theorem gw_ok_hand {g : gw_Sig} {as : List Value} (hplain : plainFor g.1 = true) (hcode : Cond.code g.1 g.2.1 g.2.2.1 g.2.2.2 ∈ gw_tb) (hlen : (lg_sl (as.map (gw_v x))).length ≤ g.2.2.1)
    (body : ∀ (p : Program) (e : Env) (s : State) (m : MethodId) (below : List Frame) (meth : Method) (c : Code) (Z : State → Prop) (ls : Array Slot), gw_fx p s m (as.map (gw_v x)).toArray c x g.2.2.1 g.2.1 g.1.cls → meth.name = g.1.name → gw_ret p l e (gw_rm (d + 1) mc ms) s m (as.map (gw_v x)).toArray below meth c Z x g.2.1 g.2.2.2 mc ms Q → lv_has ls g.2.2.1 (lv_args 0 (as.map (gw_v x))) → gw_rep x S μ s.heap [] → W p l e (gw_rm (d + 1) mc ms) s m (as.map (gw_v x)).toArray below meth c s.heap [] 0 0 Z (F0 m 0 ls [])) : gw_ok l x (d + 1) g mc ms as S μ Q := by
  refine ⟨hcode, va_MetF (cc := g.2.1) (maxL := g.2.2.1) (ret := g.2.2.2) hplain rfl ?_⟩
  intro p e s m args below meth c s₁ B hml hv
  obtain ⟨rfl, hrep, hkk⟩ := hv
  have hts := atoms_spec (ws := gw_wsg g) B.pre
  have hnm := (name_of_methodNamed B.named B.method).1
  have hlocks := B.notSynchronized
  have hr := B.returns
  have hx := B.exec
  have hb := B.bytes
  have F : gw_fx p s m (as.map (gw_v x)).toArray c x g.2.2.1 g.2.1 g.1.cls := ⟨B.exec, B.bytes, hml, findClass_of_methodNamed B.named, fun w hw => hts w (List.mem_cons_of_mem _ hw), hkk⟩
  have hret : gw_ret p l e (gw_rm (d + 1) mc ms) s m (as.map (gw_v x)).toArray below meth c (MQ below (gw_qc x Q) (as.map (gw_v x)).toArray s mc ms (gw_A x)) x g.2.1 g.2.2.2 mc ms Q := by
    intro pc i v S μ cc ss H locs ls hd hi hrep h1 h2 hq
    refine W.widen (k := mc) (n := ms) h1 h2 ?_
    have key : ∀ t : State, t.heap = H → s.WarmedH t.vm → gw_qc x Q (as.map (gw_v x)).toArray s (.returned (v.map (gw_v x))) t := fun t ht hW => ⟨v, S, μ, rfl, hq, by rw [ht]; exact ⟨hrep.1, hrep.2.1, hrep.2.2.1, hrep.2.2.2.1, hrep.2.2.2.2.1, fun q hq => by cases hq⟩, gw_kk_moved hW hkk⟩
    rcases hi with ⟨rfl, hrt, w, rfl⟩ | ⟨rfl, hrt, w, rfl, hw⟩ | ⟨rfl, hrt, w, rfl⟩ | ⟨rfl, ⟨n, hrt⟩, w, rfl⟩ | ⟨rfl, hrt, rfl⟩
    · exact W.iret (v := w) hx hb (hr.trans hrt) key hrep.2.2.2.2.2 hd hlocks
    · exact W.zret (v := w) hx hb (hr.trans hrt) (by rcases hw with rfl | rfl <;> rfl) key hrep.2.2.2.2.2 hd hlocks
    · exact W.lret (v := w) hx hb (hr.trans hrt) key hrep.2.2.2.2.2 hd hlocks
    · refine W.aret (v := gw_v x (.ref w)) hx hb (hr.trans hrt) (Or.inl ⟨n, rfl⟩) ?_ key hrep.2.2.2.2.2 hd hlocks
      cases w with
      | zero => exact Or.inl rfl
      | succ w => exact Or.inr ⟨_, rfl⟩
    · exact W.vret hx hb (hr.trans hrt) key hrep.2.2.2.2.2 hd hlocks
  rw [lg_entry_eq]
  exact body p e s m below meth c _ _ F hnm hret (lv_entry (as.map (gw_v x)) (n := g.2.2.1) hlen) hrep
/-- what the share is -/
def fbits (p a : Nat) : Int64 := if p = 0 then 0 else (FP.ddiv (FP.i2d (nI p)) (FP.i2d (nI a))).toInt64
theorem ok_X10_bitsOfQuotient {p a : Nat} (hpa : p ≤ a) (ha : a < 2 ^ 31) (hq : Q (some (.long (fbits p a))) S μ) : gw_ok l x (d + 1) sgX10_bitsOfQuotient 0 0 [.int (nI p), .int (nI a)] S μ Q := by
  refine gw_ok_hand (by decide +kernel) (gw_mem2 (i := 6043) rfl rfl) (show 2 ≤ 8 by decide) ?_
  intro pg e s m below meth c Z ls F _ hret hl hrep
  have hx : pg.tables.exec = Jvm.exec := F.1
  have hb : c.code = prog_1_method_88_code := F.2.1
  have hown : s.vm.findClass RX10 = some m.cls := F.2.2.2.1
  have w1 := F.2.2.2.2.1 (.constantLong RX10 431 1023) (gw_mem2 (i := 6044) rfl rfl)
  have w2 := F.2.2.2.2.1 (.constantDouble RX10 433 4611686018427387904) (gw_mem2 (i := 6045) rfl rfl)
  have w3 := F.2.2.2.2.1 (.constantDouble RX10 435 4841369599423283200) (gw_mem2 (i := 6046) rfl rfl)
  replace hl : lv_has ls 8 [(0, .int (nI p)), (1, .int (nI a))] := hl
  refine lv_iload_n hx hb eX10_bitsOfQuotient_0 rfl (lv_at hl 0 rfl) ?_
  refine lv_if_le hx hb eX10_bitsOfQuotient_1 (tgt := 9) rfl (fun hp => ?_) (fun hp => ?_)
  · have hp0 : p = 0 := by
      apply Classical.byContradiction
      intro hc
      exact nI_nle (show 0 < p by omega) (by omega) hp
    refine lv_lconst hx hb eX10_bitsOfQuotient_9 rfl ?_
    refine hret 10 .lreturn (some (.long 0)) S μ 0 0 _ _ _ eX10_bitsOfQuotient_10 (Or.inr (Or.inr (Or.inl ⟨rfl, rfl, 0, rfl⟩))) hrep (Nat.le_refl _) (Nat.le_refl _) ?_
    unfold fbits at hq
    rw [if_pos hp0] at hq
    exact hq
  · have hp0 : 1 ≤ p := by
      apply Classical.byContradiction
      intro hc
      exact hp (by rw [show p = 0 by omega]; decide)
    refine lv_iload_n hx hb eX10_bitsOfQuotient_4 rfl (lv_at hl 1 rfl) ?_
    refine lv_iload_n hx hb eX10_bitsOfQuotient_5 rfl (lv_at hl 0 rfl) ?_
    refine lv_icmp_ge hx hb eX10_bitsOfQuotient_6 (tgt := 11) rfl (fun _ => ?_) (fun hc => absurd (nI_le hpa (by omega)) hc)
    obtain ⟨E, T, hE1, hE2, hT, hdiv⟩ := fp_div hp0 hpa ha
    replace hdiv : FP.ddiv (FP.i2d (nI p)) (FP.i2d (nI a)) = nrm E T := hdiv
    refine lv_iload_n hx hb eX10_bitsOfQuotient_11 rfl (lv_at hl 0 rfl) ?_
    refine lv_i2d hx hb eX10_bitsOfQuotient_12 ?_
    refine lv_iload_n hx hb eX10_bitsOfQuotient_13 rfl (lv_at hl 1 rfl) ?_
    refine lv_i2d hx hb eX10_bitsOfQuotient_14 ?_
    refine lv_ddiv hx hb eX10_bitsOfQuotient_15 (by rw [hdiv]; exact nrm_n64 (by omega) hT) ?_
    rw [hdiv]
    refine lv_dstore_n hx hb eX10_bitsOfQuotient_16 rfl hl (by decide) rfl (fun ls1 hl1 => ?_)
    refine lv_ldc2 hx hb hown w1 eX10_bitsOfQuotient_17 ?_
    refine lv_lstore hx hb eX10_bitsOfQuotient_20 hl1 (by decide) rfl (fun ls2 hl2 => ?_)
    refine lv_iconst hx hb eX10_bitsOfQuotient_22 (v := 0) rfl ?_
    refine lv_istore hx hb eX10_bitsOfQuotient_23 hl2 (by decide) rfl (fun ls3 hl3 => ?_)
    have loop : ∀ (dd k : Nat) (ls : Array Slot), E + k + dd = 1023 → lv_has ls 8 [(6, .int (nI k)), (4, .long (Int64.ofNat (1023 - k))), (2, .double (nrm (E + k) T)), (0, .int (nI p)), (1, .int (nI a))] → W pg l e (gw_rm (d + 1) 0 0) s m (([.int (nI p), .int (nI a)] : List Value).map (gw_v x)).toArray below meth c s.heap [] 0 0 Z (F0 m 25 ls []) := by
      intro dd
      induction dd with
      | zero =>
        intro k ls hk hl
        have hEk : E + k = 1023 := by omega
        refine lv_iload hx hb eX10_bitsOfQuotient_25 (lv_at hl 0 rfl) ?_
        refine lv_bipush hx hb eX10_bitsOfQuotient_27 (v := 32) (by decide) ?_
        refine lv_icmp_ge hx hb eX10_bitsOfQuotient_29 (tgt := 56) rfl (fun hc => absurd hc (nI_ge (b := 32) (by omega) (by decide))) (fun _ => ?_)
        refine lv_dload_n hx hb eX10_bitsOfQuotient_32 rfl (lv_at hl 2 rfl) ?_
        refine lv_dconst1 hx hb eX10_bitsOfQuotient_33 ?_
        refine lv_dcmp hx hb eX10_bitsOfQuotient_34 ?_
        refine lv_if_ge hx hb eX10_bitsOfQuotient_35 (tgt := 56) rfl (fun _ => ?_) (fun hc => ?_)
        · refine lv_dload_n hx hb eX10_bitsOfQuotient_56 rfl (lv_at hl 2 rfl) ?_
          refine lv_dconst1 hx hb eX10_bitsOfQuotient_57 ?_
          rw [hEk]
          obtain ⟨f1, f2, f3⟩ := fp_frac hT
          refine lv_dsub hx hb eX10_bitsOfQuotient_58 f1 ?_
          refine lv_ldc2d hx hb hown w3 eX10_bitsOfQuotient_59 ?_
          refine lv_dmul hx hb eX10_bitsOfQuotient_62 f2 ?_
          refine lv_d2l hx hb eX10_bitsOfQuotient_63 ?_
          rw [f3]
          refine lv_lstore hx hb eX10_bitsOfQuotient_64 hl (by decide) rfl (fun ls4 hl4 => ?_)
          refine lv_lload hx hb eX10_bitsOfQuotient_66 (lv_at hl4 1 rfl) ?_
          refine lv_bipush hx hb eX10_bitsOfQuotient_68 (v := 52) (by decide) ?_
          refine lv_lshl hx hb eX10_bitsOfQuotient_70 rfl ?_
          refine lv_lload hx hb eX10_bitsOfQuotient_71 (lv_at hl4 0 rfl) ?_
          refine lv_ladd hx hb eX10_bitsOfQuotient_73 ?_
          rw [fp_bits (show k < 32 by omega), show 1023 - k = E by omega]
          refine hret 74 .lreturn (some (.long (nrm E T).toInt64)) S μ 0 0 _ _ _ eX10_bitsOfQuotient_74 (Or.inr (Or.inr (Or.inl ⟨rfl, rfl, _, rfl⟩))) hrep (Nat.le_refl _) (Nat.le_refl _) ?_
          unfold fbits at hq
          rw [if_neg (by omega), hdiv] at hq
          exact hq
        · exfalso
          rcases (fp_ord (by omega) (by omega) hT).2 hEk with h | h
          · rw [h] at hc; exact hc (by decide)
          · rw [h] at hc; exact hc (by decide)
      | succ dd ih =>
        intro k ls hk hl
        refine lv_iload hx hb eX10_bitsOfQuotient_25 (lv_at hl 0 rfl) ?_
        refine lv_bipush hx hb eX10_bitsOfQuotient_27 (v := 32) (by decide) ?_
        refine lv_icmp_ge hx hb eX10_bitsOfQuotient_29 (tgt := 56) rfl (fun hc => absurd hc (nI_ge (b := 32) (by omega) (by decide))) (fun _ => ?_)
        refine lv_dload_n hx hb eX10_bitsOfQuotient_32 rfl (lv_at hl 2 rfl) ?_
        refine lv_dconst1 hx hb eX10_bitsOfQuotient_33 ?_
        refine lv_dcmp hx hb eX10_bitsOfQuotient_34 ?_
        rw [(fp_ord (E := E + k) (by omega) (by omega) hT).1 (by omega)]
        refine lv_if_ge hx hb eX10_bitsOfQuotient_35 (tgt := 56) rfl (fun hc => absurd hc (by decide)) (fun _ => ?_)
        refine lv_dload_n hx hb eX10_bitsOfQuotient_38 rfl (lv_at hl 2 rfl) ?_
        refine lv_ldc2d hx hb hown w2 eX10_bitsOfQuotient_39 ?_
        refine lv_dmul hx hb eX10_bitsOfQuotient_42 (by rw [fp_dbl (by omega) (by omega) hT]; exact nrm_n64 (by omega) hT) ?_
        rw [fp_dbl (by omega) (by omega) hT]
        refine lv_dstore_n hx hb eX10_bitsOfQuotient_43 rfl hl (by decide) rfl (fun ls4 hl4 => ?_)
        refine lv_lload hx hb eX10_bitsOfQuotient_44 (lv_at hl4 2 rfl) ?_
        refine lv_lconst hx hb eX10_bitsOfQuotient_46 (v := 1) rfl ?_
        refine lv_lsub hx hb eX10_bitsOfQuotient_47 ?_
        rw [fp_exp k (by omega)]
        refine lv_lstore hx hb eX10_bitsOfQuotient_48 hl4 (by decide) rfl (fun ls5 hl5 => ?_)
        refine lv_iinc hx hb eX10_bitsOfQuotient_50 hl5 (k := 2) (x := nI k) rfl (v := nI (k + 1)) (nI_1 k) (by decide) rfl (fun ls6 hl6 => ?_)
        refine lv_goto hx hb eX10_bitsOfQuotient_53 (tgt := 25) rfl ?_
        exact ih (k + 1) ls6 (by omega) hl6
    exact loop (1023 - E) 0 ls3 (by omega) hl3
/-- not a number: no -/
theorem fp_self {q : UInt64} (h : FP.Core.decode FP.Core.b64 q.toNat ≠ .nan) : FP.dcmp q q = some .eq := by
  show FP.Core.dcmp q q = some .eq
  unfold FP.Core.dcmp FP.Core.cmp
  have hc : ∀ a : Int, compare a a = Ordering.eq := fun a => by
    show (if a < a then Ordering.lt else if a = a then Ordering.eq else Ordering.gt) = _
    rw [if_neg (by omega), if_pos rfl]
  generalize FP.Core.decode FP.Core.b64 q.toNat = v at h
  cases v with
  | nan => exact absurd rfl h
  | inf s => simp only [FP.Core.order, hc]
  | fin s c e => simp only [FP.Core.order, hc]
theorem ok_isNaN {q : UInt64} (h : FP.Core.decode FP.Core.b64 q.toNat ≠ .nan) (hq : Q (some (.int 0)) S μ) : gw_ok l x (d + 1) sgJxe99ae_isNaN_b9ae7 0 0 [.double q] S μ Q := by
  refine gw_ok_hand (by decide +kernel) (gw_mem2 (i := 8229) rfl rfl) (show 2 ≤ 2 by decide) ?_
  intro pg e s m below meth c Z ls F _ hret hl hrep
  have hx : pg.tables.exec = Jvm.exec := F.1
  have hb : c.code = prog_14_method_6_code := F.2.1
  replace hl : lv_has ls 2 [(0, .double q)] := hl
  refine lv_dload_n hx hb eJxe99ae_isNaN_b9ae7_0 rfl (lv_at hl 0 rfl) ?_
  refine lv_dload_n hx hb eJxe99ae_isNaN_b9ae7_1 rfl (lv_at hl 0 rfl) ?_
  refine lv_dcmp hx hb eJxe99ae_isNaN_b9ae7_2 ?_
  rw [fp_self h]
  refine lv_if_eq hx hb eJxe99ae_isNaN_b9ae7_3 (tgt := 10) rfl (fun _ => ?_) (fun hc => absurd (show Op.cmpValue (some .eq) .l = 0 by decide) hc)
  refine lv_iconst hx hb eJxe99ae_isNaN_b9ae7_10 (v := 0) rfl ?_
  exact hret 11 .ireturn (some (.int 0)) S μ 0 0 _ _ _ eJxe99ae_isNaN_b9ae7_11 (Or.inr (Or.inl ⟨rfl, rfl, 0, rfl, Or.inl rfl⟩)) hrep (Nat.le_refl _) (Nat.le_refl _) hq
theorem ok_doubleToLongBits {q : UInt64} (h : FP.Core.decode FP.Core.b64 q.toNat ≠ .nan) (hq : Q (some (.long q.toInt64)) S μ) : gw_ok l x (d + 2) sgJxe99ae_doubleToLongBits_ccdee 0 0 [.double q] S μ Q := by
  refine gw_ok_hand (by decide +kernel) (gw_mem2 (i := 8226) rfl rfl) (show 2 ≤ 2 by decide) ?_
  intro pg e s m below meth c Z ls F _ hret hl hrep
  have hx : pg.tables.exec = Jvm.exec := F.1
  have hb : c.code = prog_14_method_23_code := F.2.1
  have hown : s.vm.findClass "java/lang/Double" = some m.cls := F.2.2.2.1
  replace hl : lv_has ls 2 [(0, .double q)] := hl
  refine lv_dload_n hx hb eJxe99ae_doubleToLongBits_ccdee_0 rfl (lv_at hl 0 rfl) ?_
  obtain ⟨hcode, hM⟩ := ok_isNaN (l := l) (x := x) (d := d) (S := S) (μ := μ) (Q := fun r S' μ' => r = some (.int 0) ∧ S' = S ∧ μ' = μ) h ⟨rfl, rfl, rfl⟩
  refine gw_callrow (mc' := 0) (ms' := 0) (rest := []) (va_runS (As := [Value.double q]) ⟨F.1, F.2.1, F.2.2.1, F.2.2.2.1, F.2.2.2.2.1⟩ hM ⟨callB_of 1 F.2.2.2.2.1 (gw_good hcode) rfl rfl rfl (F.2.2.2.2.1 _ (gw_mem2 (i := 1018) rfl rfl)) (F.2.2.2.2.1 _ (gw_mem2 (i := 8227) rfl rfl)) (by decide +kernel) ⟨by show d + 1 + 1 ≤ d + 2; omega, by show 8 + (2 + 11) + 40 * (d + 1) ≤ 40 * (d + 2); omega⟩, F.2.2.2.2.1 _ (gw_mem2 (i := 8228) rfl rfl)⟩ ⟨gw_blind x _ S μ, gw_pre hrep F.2.2.2.2.2⟩ rfl rfl hl.1 rfl (lv_room (by decide)) eJxe99ae_doubleToLongBits_ccdee_1 ⟨Nat.le_refl 0, Nat.le_refl 0⟩) hrep.2.2.2.2.2 ?_
  intro r S' μ' H1 locs1 hq' hr'
  obtain ⟨rfl, rfl, rfl⟩ := hq'
  refine lv_if_ne hx hb eJxe99ae_doubleToLongBits_ccdee_4 (tgt := 12) rfl (fun hc => absurd rfl hc) (fun _ => ?_)
  refine lv_dload_n hx hb eJxe99ae_doubleToLongBits_ccdee_7 rfl (lv_at hl 0 rfl) ?_
  refine vn_d2l hx hb (by rw [F.2.2.1]; exact hl.1.symm) hown (F.2.2.2.2.1 _ (gw_mem2 (i := 8230) rfl rfl)) (F.2.2.2.2.1 _ (gw_mem2 (i := 8232) rfl rfl)) (F.2.2.2.2.1 _ (gw_mem2 (i := 8231) rfl rfl)) (F.2.2.2.2.1 _ (gw_mem2 (i := 1018) rfl rfl)) (by show 1 ≤ d + 2; omega) (by show 0 + 15 ≤ 40 * (d + 2); omega) eJxe99ae_doubleToLongBits_ccdee_8 ?_
  exact hret 11 .lreturn (some (.long q.toInt64)) S' μ' 0 0 _ _ _ eJxe99ae_doubleToLongBits_ccdee_11 (Or.inr (Or.inr (Or.inl ⟨rfl, rfl, _, rfl⟩))) hr' (Nat.le_refl _) (Nat.le_refl _) hq
end SHARE3
