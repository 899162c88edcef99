/-! ===== a step, a block, a method ===== -/
def gw_chk (own nm : String) (nL : Nat) (rt : Option FieldType) (cb : ByteArray) : Nat → List gw_E → Bool
  | _, [] => true
  | pc, e :: es => decide (e.1 = pc) && decide (decode cb e.1 = .ok (e.2.2.1, e.2.1)) && decide (e.2.1 = gw_len e.2.1 e.2.2.1) && gw_ini nm e.2.2.1 e.2.2.2.1 && gw_lk own nL rt e.1 e.2.2.1 e.2.2.2.1 e.2.2.2.2.1 e.2.2.2.2.2 && gw_chk own nm nL rt cb (e.1 + e.2.1) es
section SND7
variable {p : Program} {l : Launch} {e : Env} {R : Room} {s : State} {m : MethodId} {args : Array Value} {below : List Frame} {meth : Method} {c : Code} {Z : State → Prop} {x : gw_C} {nL : Nat} {cb : ByteArray} {own : String}
variable {d mc ms : Nat} {Q : Option Value → gw_S → gw_M → Prop} {K : Nat → gw_Kt} {rt : Option FieldType}
set_option maxHeartbeats 4000000 in
theorem gw_step_sound (F : gw_fx p s m args c x nL cb own) (hRm : mc ≤ R.cells ∧ ms ≤ R.slots) (hRf : d + 1 ≤ R.frames ∧ 40 * d + 40 ≤ R.locals) (hret : gw_ret p l e R s m args below meth c Z x cb rt mc ms Q) {pc len : Nat} {i : Instr} {an : List Nat} {iv : List Int32} {sg : List gw_Sig} {lv st : List Value} {S : gw_S} {μ : gw_M} {cc ss : Nat} {N : gw_Kt}
    (hd : decode cb pc = .ok (i, len)) (hlen : len = gw_len len i) (hini : gw_ini meth.name i an = true) (hlk : gw_lk own nL rt pc i an iv sg = true) (h : gw_step (gw_ok l x d) x mc ms Q K i an iv sg lv st S μ cc ss N) (hN : ∀ lv st S μ cc ss, N lv st S μ cc ss → gw_at p l e R s m args below meth c Z x nL (pc + len) lv st S μ cc ss) (hK : ∀ t lv st S μ cc ss, K t lv st S μ cc ss → gw_at p l e R s m args below meth c Z x nL t lv st S μ cc ss) : gw_at p l e R s m args below meth c Z x nL pc lv st S μ cc ss := by
  cases i with
  | iadd => simp only [gw_len] at hlen; subst hlen; exact gw_s_iadd F hd hlk h hN hK
  | isub => simp only [gw_len] at hlen; subst hlen; exact gw_s_isub F hd hlk h hN hK
  | imul => simp only [gw_len] at hlen; subst hlen; exact gw_s_imul F hd hlk h hN hK
  | idiv => simp only [gw_len] at hlen; subst hlen; exact gw_s_idiv F hd hlk h hN hK
  | irem => simp only [gw_len] at hlen; subst hlen; exact gw_s_irem F hd hlk h hN hK
  | iand => simp only [gw_len] at hlen; subst hlen; exact gw_s_iand F hd hlk h hN hK
  | ior => simp only [gw_len] at hlen; subst hlen; exact gw_s_ior F hd hlk h hN hK
  | ixor => simp only [gw_len] at hlen; subst hlen; exact gw_s_ixor F hd hlk h hN hK
  | ishl => simp only [gw_len] at hlen; subst hlen; exact gw_s_ishl F hd hlk h hN hK
  | ishr => simp only [gw_len] at hlen; subst hlen; exact gw_s_ishr F hd hlk h hN hK
  | iushr => simp only [gw_len] at hlen; subst hlen; exact gw_s_iushr F hd hlk h hN hK
  | lcmp => simp only [gw_len] at hlen; subst hlen; exact gw_s_lcmp F hd hlk h hN hK
  | dup => simp only [gw_len] at hlen; subst hlen; exact gw_s_dup F hd hlk h hN hK
  | dup2 => simp only [gw_len] at hlen; subst hlen; exact gw_s_dup2 F hd hlk h hN hK
  | pop => simp only [gw_len] at hlen; subst hlen; exact gw_s_pop F hd hlk h hN hK
  | iconst k => simp only [gw_len] at hlen; subst hlen; exact gw_s_iconst F hd hlk h hN hK
  | bipush k => simp only [gw_len] at hlen; subst hlen; exact gw_s_bipush F hd hlk h hN hK
  | sipush k => simp only [gw_len] at hlen; subst hlen; exact gw_s_sipush F hd hlk h hN hK
  | ldc k => simp only [gw_len] at hlen; subst hlen; exact gw_s_ldc F hd hlk h hN hK
  | ldc_w k => simp only [gw_len] at hlen; subst hlen; exact gw_s_ldc_w F hd hlk h hN hK
  | aload_n k => simp only [gw_len] at hlen; subst hlen; exact gw_s_aload_n F hd hlk h hN hK
  | aload k => simp only [gw_len] at hlen; subst hlen; exact gw_s_aload F hd hlk h hN hK
  | iload_n k => simp only [gw_len] at hlen; subst hlen; exact gw_s_iload_n F hd hlk h hN hK
  | iload k => simp only [gw_len] at hlen; subst hlen; exact gw_s_iload F hd hlk h hN hK
  | astore_n k => simp only [gw_len] at hlen; subst hlen; exact gw_s_astore_n F hd hlk h hN hK
  | astore k => simp only [gw_len] at hlen; subst hlen; exact gw_s_astore F hd hlk h hN hK
  | istore_n k => simp only [gw_len] at hlen; subst hlen; exact gw_s_istore_n F hd hlk h hN hK
  | istore k => simp only [gw_len] at hlen; subst hlen; exact gw_s_istore F hd hlk h hN hK
  | iinc k n => simp only [gw_len] at hlen; subst hlen; exact gw_s_iinc F hd hlk h hN hK
  | ifCond k n => simp only [gw_len] at hlen; subst hlen; exact gw_s_ifCond F hd hlk h hN hK
  | if_icmp k n => simp only [gw_len] at hlen; subst hlen; exact gw_s_if_icmp F hd hlk h hN hK
  | ifnull k => simp only [gw_len] at hlen; subst hlen; exact gw_s_ifnull F hd hlk h hN hK
  | ifnonnull k => simp only [gw_len] at hlen; subst hlen; exact gw_s_ifnonnull F hd hlk h hN hK
  | goto k => simp only [gw_len] at hlen; subst hlen; exact gw_s_goto F hd hlk h hN hK
  | tableswitch a b f g => exact gw_s_tableswitch F hd hlk h hN hK
  | getfield k => simp only [gw_len] at hlen; subst hlen; exact gw_s_getfield F hd hlk h hN hK
  | putfield k =>
    simp only [gw_len] at hlen; subst hlen
    refine gw_s_putfield F ?_ hd hlk h hN hK
    simp only [gw_ini, decide_eq_true_eq] at hini
    by_cases hz : 1 = an.getD 2 0
    · exact Or.inl (hini hz.symm)
    · exact Or.inr hz
  | iaload => simp only [gw_len] at hlen; subst hlen; exact gw_s_iaload F hd hlk h hN hK
  | iastore => simp only [gw_len] at hlen; subst hlen; exact gw_s_iastore F hd hlk h hN hK
  | aaload => simp only [gw_len] at hlen; subst hlen; exact gw_s_aaload F hd hlk h hN hK
  | aastore => simp only [gw_len] at hlen; subst hlen; exact gw_s_aastore F hd hlk h hN hK
  | arraylength => simp only [gw_len] at hlen; subst hlen; exact gw_s_arraylength F hd hlk h hN hK
  | newarray k => simp only [gw_len] at hlen; subst hlen; exact gw_s_newarray F hRm (F.2.2.2.2.1 _ gw_ac) hd hlk h hN hK
  | anewarray k => simp only [gw_len] at hlen; subst hlen; exact gw_s_anewarray F hRm hd hlk h hN hK
  | new k => simp only [gw_len] at hlen; subst hlen; exact gw_s_new F hRm hd hlk h hN hK
  | invokevirtual k => simp only [gw_len] at hlen; subst hlen; exact gw_s_invokevirtual F hRm hRf hd hlk h hN hK
  | invokestatic k => simp only [gw_len] at hlen; subst hlen; exact gw_s_invokestatic F hRm hRf hd hlk h hN hK
  | invokespecial k => simp only [gw_len] at hlen; subst hlen; exact gw_s_invokespecial F hRm hRf hd hlk h hN hK
  | ireturn => simp only [gw_len] at hlen; subst hlen; exact gw_s_ireturn F hret hd hlk h hN hK
  | lreturn => simp only [gw_len] at hlen; subst hlen; exact gw_s_lreturn F hret hd hlk h hN hK
  | areturn => simp only [gw_len] at hlen; subst hlen; exact gw_s_areturn F hret hd hlk h hN hK
  | return_ => simp only [gw_len] at hlen; subst hlen; exact gw_s_return_ F hret hd hlk h hN hK
  | _ => exact h.elim
theorem gw_blk_sound (F : gw_fx p s m args c x nL cb own) (hRm : mc ≤ R.cells ∧ ms ≤ R.slots) (hRf : d + 1 ≤ R.frames ∧ 40 * d + 40 ≤ R.locals) (hret : gw_ret p l e R s m args below meth c Z x cb rt mc ms Q) (hK : ∀ t lv st S μ cc ss, K t lv st S μ cc ss → gw_at p l e R s m args below meth c Z x nL t lv st S μ cc ss) :
    ∀ (es : List gw_E) (pc : Nat) (lv st : List Value) (S : gw_S) (μ : gw_M) (cc ss : Nat), gw_chk own meth.name nL rt cb pc es = true → gw_blk (gw_ok l x d) x mc ms Q K es pc lv st S μ cc ss → gw_at p l e R s m args below meth c Z x nL pc lv st S μ cc ss
  | [], pc, lv, st, S, μ, cc, ss, _, h => hK pc lv st S μ cc ss h
  | e0 :: es, pc, lv, st, S, μ, cc, ss, hc, h => by
    simp only [gw_chk, Bool.and_eq_true, decide_eq_true_eq] at hc
    obtain ⟨⟨⟨⟨⟨h1, h2⟩, h3⟩, h4⟩, h5⟩, h6⟩ := hc
    subst h1
    exact gw_step_sound F hRm hRf hret h2 h3 h4 h5 h (fun lv st S μ cc ss hn => gw_blk_sound F hRm hRf hret hK es (e0.1 + e0.2.1) lv st S μ cc ss h6 hn) hK
end SND7
/-- what a program decides of a method, once -/
def gw_sta (g : gw_Sig) (bs : List (Nat × List gw_E)) : Prop := plainFor g.1 = true ∧ Cond.code g.1 g.2.1 g.2.2.1 g.2.2.2 ∈ gw_tb ∧ ∀ b ∈ bs, gw_chk g.1.cls g.1.name g.2.2.1 g.2.2.2 g.2.1 b.1 b.2 = true
theorem gw_all {g : gw_Sig} {bs : List (Nat × List gw_E)} (h : (bs.all (fun b => gw_chk g.1.cls g.1.name g.2.2.1 g.2.2.2 g.2.1 b.1 b.2)) = true) : ∀ b ∈ bs, gw_chk g.1.cls g.1.name g.2.2.1 g.2.2.2 g.2.1 b.1 b.2 = true := fun b hb => List.all_eq_true.mp h b hb
def gw_plain : List Value → Bool
  | [] => true
  | .int _ :: l => gw_plain l
  | .ref _ :: l => gw_plain l
  | .retAddr 1 :: l => gw_plain l
  | _ => false
theorem gw_plain_nth : ∀ (l : List Value), gw_plain l = true → ∀ i, (gw_nth l i).category = 1
  | [], _, _ => rfl
  | v :: l, h, 0 => by
    show v.category = 1
    cases v <;> first | rfl | (simp [gw_plain] at h)
  | v :: l, h, i + 1 => by
    refine gw_plain_nth l ?_ i
    cases v with
    | int v => exact h
    | ref v => exact h
    | retAddr v =>
      match v, h with
      | 1, h => exact h
      | 0, h => simp [gw_plain] at h
      | _ + 2, h => simp [gw_plain] at h
    | _ => simp [gw_plain] at h
theorem gw_nth_app : ∀ (l : List Value) (n i : Nat), gw_nth (l ++ List.replicate n (.retAddr 0)) i = gw_nth l i
  | [], 0, i => rfl
  | [], n + 1, 0 => rfl
  | [], n + 1, i + 1 => by
    have := gw_nth_app [] n i
    simpa [List.replicate_succ, gw_nth] using this
  | _ :: _, _, 0 => rfl
  | _ :: l, n, i + 1 => gw_nth_app l n i
theorem gw_args_mem (x : gw_C) : ∀ (l : List Value) (k : Nat), gw_plain l = true → ∀ i, gw_nth l i ≠ .retAddr 0 → (k + i, gw_v x (gw_nth l i)) ∈ lv_args k (l.map (gw_v x))
  | [], _, _, _, h => absurd rfl h
  | v :: l, k, hp, i, h => by
    have hc : (gw_v x v).category = 1 := gw_v_cat x (gw_plain_nth (v :: l) hp 0)
    have hp' : gw_plain l = true := by
      cases v with
      | int v => exact hp
      | ref v => exact hp
      | retAddr v =>
        match v, hp with
        | 1, hp => exact hp
        | 0, hp => simp [gw_plain] at hp
        | _ + 2, hp => simp [gw_plain] at hp
      | _ => simp [gw_plain] at hp
    simp only [List.map_cons, lv_args, hc]
    cases i with
    | zero => exact List.mem_cons_self
    | succ i =>
      have := gw_args_mem x l (k + 1) hp' i h
      refine List.mem_cons_of_mem _ ?_
      rw [show k + (i + 1) = k + 1 + i by omega]
      exact this
theorem gw_sl_len (x : gw_C) : ∀ (l : List Value), gw_plain l = true → (lg_sl (l.map (gw_v x))).length = l.length
  | [], _ => rfl
  | v :: l, hp => by
    have hc : (gw_v x v).category = 1 := gw_v_cat x (gw_plain_nth (v :: l) hp 0)
    have hp' : gw_plain l = true := by
      cases v with
      | int v => exact hp
      | ref v => exact hp
      | retAddr v =>
        match v, hp with
        | 1, hp => exact hp
        | 0, hp => simp [gw_plain] at hp
        | _ + 2, hp => simp [gw_plain] at hp
      | _ => simp [gw_plain] at hp
    have ih := gw_sl_len x l hp'
    simp only [lg_sl, List.map_cons, List.flatMap_cons, List.length_append, List.length_cons] at *
    rw [ih, if_neg (by rw [hc]; decide)]
    simp only [List.length_cons, List.length_nil]
    omega
theorem gw_find_in : ∀ (bs : List (Nat × List gw_E)) (pc : Nat), gw_find bs pc = [] ∨ ∃ b ∈ bs, b.1 = pc ∧ b.2 = gw_find bs pc
  | [], _ => Or.inl rfl
  | b :: bs, pc => by
    by_cases h : b.1 = pc
    · exact Or.inr ⟨b, List.mem_cons_self, h, by simp [gw_find, h]⟩
    · rcases gw_find_in bs pc with h1 | ⟨b', h1, h2, h3⟩
      · exact Or.inl (by simp [gw_find, h, h1])
      · exact Or.inr ⟨b', List.mem_cons_of_mem _ h1, h2, by simp [gw_find, h, h3]⟩
set_option maxHeartbeats 4000000 in
/-- THE CONTRACT OF A METHOD: from its blocks -/
theorem gw_ok_of {l : Launch} {x : gw_C} {g : gw_Sig} {bs : List (Nat × List gw_E)} (h : gw_sta g bs) {d mc ms : Nat} {as lv0 : List Value} {S : gw_S} {μ : gw_M} {Q : Option Value → gw_S → gw_M → Prop} (hlen : as.length ≤ g.2.2.1) (hpl : gw_plain as = true) (hlv : as ++ List.replicate (g.2.2.1 - as.length) (.retAddr 0) = lv0)
    (body : ∀ K : Nat → gw_Kt, (∀ pc lv st S μ cc ss, gw_blk (gw_ok l x d) x mc ms Q K (gw_find bs pc) pc lv st S μ cc ss → K pc lv st S μ cc ss) → K 0 lv0 [] S μ 0 0) : gw_ok l x (d + 1) g mc ms as S μ Q := by
  obtain ⟨hplain, hcode, hchk⟩ := h
  subst hlv
  refine ⟨hcode, va_MetF (cc := g.2.1) (maxL := g.2.2.1) (ret := g.2.2.2) hplain rfl ?_⟩
  intro p e s m args below meth c s₁ B hml hv
  obtain ⟨rfl, hrep, hkk⟩ := hv
  have hts := atoms_spec (ws := gw_wsg g) B.pre
  have hnm := (name_of_methodNamed B.named B.method).1
  have hlocks := B.notSynchronized
  have hr := B.returns
  have hx := B.exec
  have hb := B.bytes
  have F : gw_fx p s m (as.map (gw_v x)).toArray c x g.2.2.1 g.2.1 g.1.cls := ⟨B.exec, B.bytes, hml, findClass_of_methodNamed B.named, fun w hw => hts w (List.mem_cons_of_mem _ hw), hkk⟩
  have hret : gw_ret p l e (gw_rm (d + 1) mc ms) s m (as.map (gw_v x)).toArray below meth c (MQ below (gw_qc x Q) (as.map (gw_v x)).toArray s mc ms (gw_A x)) x g.2.1 g.2.2.2 mc ms Q := by
    intro pc i v S μ cc ss H locs ls hd hi hrep h1 h2 hq
    refine W.widen (k := mc) (n := ms) h1 h2 ?_
    have key : ∀ t : State, t.heap = H → s.WarmedH t.vm → gw_qc x Q (as.map (gw_v x)).toArray s (.returned (v.map (gw_v x))) t := fun t ht hW => ⟨v, S, μ, rfl, hq, by rw [ht]; exact ⟨hrep.1, hrep.2.1, hrep.2.2.1, hrep.2.2.2.1, hrep.2.2.2.2.1, fun q hq => by cases hq⟩, gw_kk_moved hW hkk⟩
    rcases hi with ⟨rfl, hrt, w, rfl⟩ | ⟨rfl, hrt, w, rfl, hw⟩ | ⟨rfl, hrt, w, rfl⟩ | ⟨rfl, ⟨n, hrt⟩, w, rfl⟩ | ⟨rfl, hrt, rfl⟩
    · exact W.iret (v := w) hx hb (hr.trans hrt) key hrep.2.2.2.2.2 hd hlocks
    · exact W.zret (v := w) hx hb (hr.trans hrt) (by rcases hw with rfl | rfl <;> rfl) key hrep.2.2.2.2.2 hd hlocks
    · exact W.lret (v := w) hx hb (hr.trans hrt) key hrep.2.2.2.2.2 hd hlocks
    · refine W.aret (v := gw_v x (.ref w)) hx hb (hr.trans hrt) (Or.inl ⟨n, rfl⟩) ?_ key hrep.2.2.2.2.2 hd hlocks
      cases w with
      | zero => exact Or.inl rfl
      | succ w => exact Or.inr ⟨_, rfl⟩
    · exact W.vret hx hb (hr.trans hrt) key hrep.2.2.2.2.2 hd hlocks
  have hat := body (gw_at p l e (gw_rm (d + 1) mc ms) s m (as.map (gw_v x)).toArray below meth c (MQ below (gw_qc x Q) (as.map (gw_v x)).toArray s mc ms (gw_A x)) x g.2.2.1) (fun pc lv st S μ cc ss hblk => by
    rcases gw_find_in bs pc with h1 | ⟨b, h1, h2, h3⟩
    · rw [h1] at hblk
      exact hblk
    · rw [← h3] at hblk
      have hc := hchk b h1
      rw [h2, ← hnm] at hc
      exact gw_blk_sound F ⟨Nat.le_refl _, Nat.le_refl _⟩ ⟨Nat.le_refl _, by show 40 * d + 40 ≤ 40 * (d + 1); omega⟩ hret (fun _ _ _ _ _ _ _ h => h) b.2 pc lv st S μ cc ss hc hblk)
  rw [lg_entry_eq]
  have hl := lv_entry (as.map (gw_v x)) (n := g.2.2.1) (by rw [gw_sl_len x as hpl]; exact hlen)
  generalize (lg_sl (as.map (gw_v x)) ++ List.replicate (g.2.2.1 - (lg_sl (as.map (gw_v x))).length) Slot.unset).toArray = ls at hl ⊢
  refine hat s.heap [] ls hrep ⟨hl.1, hl.2.1, ?_, fun i => ?_, fun i hi => ?_⟩
  · simp only [List.length_append, List.length_replicate]
    omega
  · rw [gw_nth_app]
    exact gw_plain_nth as hpl i
  · rw [gw_nth_app] at hi ⊢
    have := gw_args_mem x as 0 hpl i hi
    rw [Nat.zero_add] at this
    exact hl.2.2 _ this
/-! ===== the pure machine's steps, as rewriting ===== -/
section STEPS
variable {ok : gw_Ok} {x : gw_C} {mc ms : Nat} {Q : Option Value → gw_S → gw_M → Prop} {K : Nat → gw_Kt} {pc pc' n : Nat} {an : List Nat} {iv : List Int32} {sg : List gw_Sig} {es : List gw_E} {ls st t : List Value} {S : gw_S} {μ : gw_M} {cc ss : Nat} {k ci ti j r a0 : Nat} {v w a b : Int32} {q : ClassFile.Cond} {off : Int} {jn : Fin 4} {i0 : Int}
theorem gt_nil : gw_blk ok x mc ms Q K [] pc ls st S μ cc ss = K pc ls st S μ cc ss := rfl
theorem gt_aload_n : gw_blk ok x mc ms Q K ((pc, n, .aload_n jn, [k], iv, sg) :: es) pc' ls st S μ cc ss = gw_rfk (gw_nth ls k) (fun v => gw_blk ok x mc ms Q K es (pc + n) ls (v :: st) S μ cc ss) := rfl
theorem gt_aload : gw_blk ok x mc ms Q K ((pc, n, .aload j, [k], iv, sg) :: es) pc' ls st S μ cc ss = gw_rfk (gw_nth ls k) (fun v => gw_blk ok x mc ms Q K es (pc + n) ls (v :: st) S μ cc ss) := rfl
theorem gt_iload_n : gw_blk ok x mc ms Q K ((pc, n, .iload_n jn, [k], iv, sg) :: es) pc' ls st S μ cc ss = gw_ink (gw_nth ls k) (fun v => gw_blk ok x mc ms Q K es (pc + n) ls (.int v :: st) S μ cc ss) := rfl
theorem gt_iload : gw_blk ok x mc ms Q K ((pc, n, .iload j, [k], iv, sg) :: es) pc' ls st S μ cc ss = gw_ink (gw_nth ls k) (fun v => gw_blk ok x mc ms Q K es (pc + n) ls (.int v :: st) S μ cc ss) := rfl
theorem gt_astore_n : gw_blk ok x mc ms Q K ((pc, n, .astore_n jn, [k], iv, sg) :: es) pc' ls (.ref r :: t) S μ cc ss = gw_blk ok x mc ms Q K es (pc + n) (gw_set ls k (.ref r)) t S μ cc ss := rfl
theorem gt_astore : gw_blk ok x mc ms Q K ((pc, n, .astore j, [k], iv, sg) :: es) pc' ls (.ref r :: t) S μ cc ss = gw_blk ok x mc ms Q K es (pc + n) (gw_set ls k (.ref r)) t S μ cc ss := rfl
theorem gt_istore_n : gw_blk ok x mc ms Q K ((pc, n, .istore_n jn, [k], iv, sg) :: es) pc' ls (.int v :: t) S μ cc ss = gw_blk ok x mc ms Q K es (pc + n) (gw_set ls k (.int v)) t S μ cc ss := rfl
theorem gt_istore : gw_blk ok x mc ms Q K ((pc, n, .istore j, [k], iv, sg) :: es) pc' ls (.int v :: t) S μ cc ss = gw_blk ok x mc ms Q K es (pc + n) (gw_set ls k (.int v)) t S μ cc ss := rfl
theorem gt_iinc : gw_blk ok x mc ms Q K ((pc, n, .iinc j i0, [k], [w], sg) :: es) pc' ls st S μ cc ss = gw_ink (gw_nth ls k) (fun v => gw_blk ok x mc ms Q K es (pc + n) (gw_set ls k (.int (v + w))) st S μ cc ss) := rfl
theorem gt_iconst : gw_blk ok x mc ms Q K ((pc, n, .iconst i0, an, [w], sg) :: es) pc' ls st S μ cc ss = gw_blk ok x mc ms Q K es (pc + n) ls (.int w :: st) S μ cc ss := rfl
theorem gt_bipush : gw_blk ok x mc ms Q K ((pc, n, .bipush i0, an, [w], sg) :: es) pc' ls st S μ cc ss = gw_blk ok x mc ms Q K es (pc + n) ls (.int w :: st) S μ cc ss := rfl
theorem gt_sipush : gw_blk ok x mc ms Q K ((pc, n, .sipush i0, an, [w], sg) :: es) pc' ls st S μ cc ss = gw_blk ok x mc ms Q K es (pc + n) ls (.int w :: st) S μ cc ss := rfl
theorem gt_ldc : gw_blk ok x mc ms Q K ((pc, n, .ldc j, an, [w], sg) :: es) pc' ls st S μ cc ss = gw_blk ok x mc ms Q K es (pc + n) ls (.int w :: st) S μ cc ss := rfl
theorem gt_ldc_w : gw_blk ok x mc ms Q K ((pc, n, .ldc_w j, an, [w], sg) :: es) pc' ls st S μ cc ss = gw_blk ok x mc ms Q K es (pc + n) ls (.int w :: st) S μ cc ss := rfl
theorem gt_iadd : gw_blk ok x mc ms Q K ((pc, n, .iadd, an, iv, sg) :: es) pc' ls (.int b :: .int a :: t) S μ cc ss = gw_blk ok x mc ms Q K es (pc + n) ls (.int (a + b) :: t) S μ cc ss := rfl
theorem gt_isub : gw_blk ok x mc ms Q K ((pc, n, .isub, an, iv, sg) :: es) pc' ls (.int b :: .int a :: t) S μ cc ss = gw_blk ok x mc ms Q K es (pc + n) ls (.int (a - b) :: t) S μ cc ss := rfl
theorem gt_imul : gw_blk ok x mc ms Q K ((pc, n, .imul, an, iv, sg) :: es) pc' ls (.int b :: .int a :: t) S μ cc ss = gw_blk ok x mc ms Q K es (pc + n) ls (.int (a * b) :: t) S μ cc ss := rfl
theorem gt_idiv : gw_blk ok x mc ms Q K ((pc, n, .idiv, an, iv, sg) :: es) pc' ls (.int b :: .int a :: t) S μ cc ss = (¬ b = 0 ∧ gw_blk ok x mc ms Q K es (pc + n) ls (.int (a / b) :: t) S μ cc ss) := rfl
theorem gt_irem : gw_blk ok x mc ms Q K ((pc, n, .irem, an, iv, sg) :: es) pc' ls (.int b :: .int a :: t) S μ cc ss = (¬ b = 0 ∧ gw_blk ok x mc ms Q K es (pc + n) ls (.int (a - a / b * b) :: t) S μ cc ss) := rfl
theorem gt_iand : gw_blk ok x mc ms Q K ((pc, n, .iand, an, iv, sg) :: es) pc' ls (.int b :: .int a :: t) S μ cc ss = gw_blk ok x mc ms Q K es (pc + n) ls (.int (a &&& b) :: t) S μ cc ss := rfl
theorem gt_ior : gw_blk ok x mc ms Q K ((pc, n, .ior, an, iv, sg) :: es) pc' ls (.int b :: .int a :: t) S μ cc ss = gw_blk ok x mc ms Q K es (pc + n) ls (.int (a ||| b) :: t) S μ cc ss := rfl
theorem gt_ixor : gw_blk ok x mc ms Q K ((pc, n, .ixor, an, iv, sg) :: es) pc' ls (.int b :: .int a :: t) S μ cc ss = gw_blk ok x mc ms Q K es (pc + n) ls (.int (a ^^^ b) :: t) S μ cc ss := rfl
theorem gt_ishl : gw_blk ok x mc ms Q K ((pc, n, .ishl, an, iv, sg) :: es) pc' ls (.int b :: .int a :: t) S μ cc ss = gw_blk ok x mc ms Q K es (pc + n) ls (.int (a <<< (b &&& 31)) :: t) S μ cc ss := rfl
theorem gt_ishr : gw_blk ok x mc ms Q K ((pc, n, .ishr, an, iv, sg) :: es) pc' ls (.int b :: .int a :: t) S μ cc ss = gw_blk ok x mc ms Q K es (pc + n) ls (.int (a >>> (b &&& 31)) :: t) S μ cc ss := rfl
theorem gt_iushr : gw_blk ok x mc ms Q K ((pc, n, .iushr, an, iv, sg) :: es) pc' ls (.int b :: .int a :: t) S μ cc ss = gw_blk ok x mc ms Q K es (pc + n) ls (.int (a.toUInt32 >>> (b.toUInt32 &&& Int32.toUInt32 31)).toInt32 :: t) S μ cc ss := rfl
theorem gt_dup_i : gw_blk ok x mc ms Q K ((pc, n, .dup, an, iv, sg) :: es) pc' ls (.int a :: t) S μ cc ss = gw_blk ok x mc ms Q K es (pc + n) ls (.int a :: .int a :: t) S μ cc ss := rfl
theorem gt_dup_r : gw_blk ok x mc ms Q K ((pc, n, .dup, an, iv, sg) :: es) pc' ls (.ref r :: t) S μ cc ss = gw_blk ok x mc ms Q K es (pc + n) ls (.ref r :: .ref r :: t) S μ cc ss := rfl
theorem gt_dup2 : gw_blk ok x mc ms Q K ((pc, n, .dup2, an, iv, sg) :: es) pc' ls (.int b :: .ref r :: t) S μ cc ss = gw_blk ok x mc ms Q K es (pc + n) ls (.int b :: .ref r :: .int b :: .ref r :: t) S μ cc ss := rfl
theorem gt_pop_i : gw_blk ok x mc ms Q K ((pc, n, .pop, an, iv, sg) :: es) pc' ls (.int a :: t) S μ cc ss = gw_blk ok x mc ms Q K es (pc + n) ls t S μ cc ss := rfl
theorem gt_pop_r : gw_blk ok x mc ms Q K ((pc, n, .pop, an, iv, sg) :: es) pc' ls (.ref r :: t) S μ cc ss = gw_blk ok x mc ms Q K es (pc + n) ls t S μ cc ss := rfl
theorem gt_if : gw_blk ok x mc ms Q K ((pc, n, .ifCond q off, [k], iv, sg) :: es) pc' ls (.int a :: t) S μ cc ss = ((gw_c1 q a → K k ls t S μ cc ss) ∧ (¬ gw_c1 q a → gw_blk ok x mc ms Q K es (pc + n) ls t S μ cc ss)) := rfl
theorem gt_icmp : gw_blk ok x mc ms Q K ((pc, n, .if_icmp q off, [k], iv, sg) :: es) pc' ls (.int b :: .int a :: t) S μ cc ss = ((gw_c2 q a b → K k ls t S μ cc ss) ∧ (¬ gw_c2 q a b → gw_blk ok x mc ms Q K es (pc + n) ls t S μ cc ss)) := rfl
theorem gt_ifnull : gw_blk ok x mc ms Q K ((pc, n, .ifnull off, [k], iv, sg) :: es) pc' ls (.ref r :: t) S μ cc ss = ((r = 0 → K k ls t S μ cc ss) ∧ (¬ r = 0 → gw_blk ok x mc ms Q K es (pc + n) ls t S μ cc ss)) := rfl
theorem gt_ifnonnull : gw_blk ok x mc ms Q K ((pc, n, .ifnonnull off, [k], iv, sg) :: es) pc' ls (.ref r :: t) S μ cc ss = ((¬ r = 0 → K k ls t S μ cc ss) ∧ (r = 0 → gw_blk ok x mc ms Q K es (pc + n) ls t S μ cc ss)) := rfl
theorem gt_goto : gw_blk ok x mc ms Q K ((pc, n, .goto off, [k], iv, sg) :: es) pc' ls st S μ cc ss = K k ls st S μ cc ss := rfl
theorem gt_get_r : gw_blk ok x mc ms Q K ((pc, n, .getfield j, [ci, k, 1, ti], iv, sg) :: es) pc' ls (.ref r :: t) S μ cc ss = (gw_kd S r = ci ∧ gw_blk ok x mc ms Q K es (pc + n) ls (.ref (gw_rf S r k) :: t) S μ cc ss) := rfl
theorem gt_get_i : gw_blk ok x mc ms Q K ((pc, n, .getfield j, [ci, k, 0, ti], iv, sg) :: es) pc' ls (.ref r :: t) S μ cc ss = (gw_kd S r = ci ∧ gw_blk ok x mc ms Q K es (pc + n) ls (.int (μ r k) :: t) S μ cc ss) := rfl
theorem gt_get_z : gw_blk ok x mc ms Q K ((pc, n, .getfield j, [ci, k, 2, ti], iv, sg) :: es) pc' ls (.ref r :: t) S μ cc ss = (gw_kd S r = ci ∧ gw_blk ok x mc ms Q K es (pc + n) ls (.int (μ r k) :: t) S μ cc ss) := rfl
theorem gt_put_r : gw_blk ok x mc ms Q K ((pc, n, .putfield j, [ci, k, 1, ti], iv, sg) :: es) pc' ls (.ref a0 :: .ref r :: t) S μ cc ss = (gw_kd S r = ci ∧ ¬ a0 = 0 ∧ gw_blk ok x mc ms Q K es (pc + n) ls t (gw_sr S r k a0) μ cc ss) := rfl
theorem gt_put_i : gw_blk ok x mc ms Q K ((pc, n, .putfield j, [ci, k, 0, ti], iv, sg) :: es) pc' ls (.int v :: .ref r :: t) S μ cc ss = (gw_kd S r = ci ∧ gw_blk ok x mc ms Q K es (pc + n) ls t S (gw_up μ r k v) cc ss) := rfl
theorem gt_put_z : gw_blk ok x mc ms Q K ((pc, n, .putfield j, [ci, k, 2, ti], iv, sg) :: es) pc' ls (.int v :: .ref r :: t) S μ cc ss = (gw_kd S r = ci ∧ (v = 0 ∨ v = 1) ∧ gw_blk ok x mc ms Q K es (pc + n) ls t S (gw_up μ r k v) cc ss) := rfl
theorem gt_iaload : gw_blk ok x mc ms Q K ((pc, n, .iaload, an, iv, sg) :: es) pc' ls (.int v :: .ref r :: t) S μ cc ss = (gw_kd S r = 12 ∧ gw_in v (gw_ln S r) ∧ gw_blk ok x mc ms Q K es (pc + n) ls (.int (μ r v.toNatClampNeg) :: t) S μ cc ss) := rfl
theorem gt_iastore : gw_blk ok x mc ms Q K ((pc, n, .iastore, an, iv, sg) :: es) pc' ls (.int w :: .int v :: .ref r :: t) S μ cc ss = (gw_kd S r = 12 ∧ gw_in v (gw_ln S r) ∧ gw_blk ok x mc ms Q K es (pc + n) ls t S (gw_up μ r v.toNatClampNeg w) cc ss) := rfl
theorem gt_aaload : gw_blk ok x mc ms Q K ((pc, n, .aaload, an, iv, sg) :: es) pc' ls (.int v :: .ref r :: t) S μ cc ss = ((gw_kd S r = 13 ∨ gw_kd S r = 14) ∧ gw_in v (gw_ln S r) ∧ gw_blk ok x mc ms Q K es (pc + n) ls (.ref (gw_rf S r v.toNatClampNeg) :: t) S μ cc ss) := rfl
theorem gt_aastore : gw_blk ok x mc ms Q K ((pc, n, .aastore, an, iv, sg) :: es) pc' ls (.ref a0 :: .int v :: .ref r :: t) S μ cc ss = (((gw_kd S r = 13 ∧ gw_kd S a0 = 1) ∨ (gw_kd S r = 14 ∧ gw_kd S a0 = 3)) ∧ gw_in v (gw_ln S r) ∧ gw_blk ok x mc ms Q K es (pc + n) ls t (gw_sr S r v.toNatClampNeg a0) μ cc ss) := rfl
theorem gt_alen : gw_blk ok x mc ms Q K ((pc, n, .arraylength, an, iv, sg) :: es) pc' ls (.ref r :: t) S μ cc ss = ((gw_kd S r = 12 ∨ gw_kd S r = 13 ∨ gw_kd S r = 14) ∧ gw_blk ok x mc ms Q K es (pc + n) ls (.int (Int32.ofNat (gw_ln S r)) :: t) S μ cc ss) := rfl
theorem gt_virt {g : gw_Sig} {an' : List Nat} : gw_blk ok x mc ms Q K ((pc, n, .invokevirtual j, k :: ci :: an', iv, [g]) :: es) pc' ls st S μ cc ss = gw_rfk (gw_nth st k) (fun v => match v with
        | .ref a => gw_kd S a = ci ∧ gw_r8 (st.drop (k + 1)) 8 = true ∧ ∃ mc' ms', cc + mc' ≤ mc ∧ ss + ms' ≤ ms ∧ ok g mc' ms' (.ref a :: (st.take k).reverse) S μ (fun r S' μ' => gw_blk ok x mc ms Q K es (pc + n) ls (r.toList ++ st.drop (k + 1)) S' μ' (cc + mc') (ss + ms'))
        | _ => False) := rfl
theorem gt_stat0 {g : gw_Sig} {k1 k2 k3 k4 : Nat} : gw_blk ok x mc ms Q K ((pc, n, .invokestatic j, [k, 0, k1, k2, k3, k4], iv, [g]) :: es) pc' ls st S μ cc ss = (gw_r8 (st.drop k) 8 = true ∧ k ≤ st.length ∧ ∃ mc' ms', cc + mc' ≤ mc ∧ ss + ms' ≤ ms ∧ ok g mc' ms' (st.take k).reverse S μ (fun r S' μ' => gw_blk ok x mc ms Q K es (pc + n) ls (r.toList ++ st.drop k) S' μ' (cc + mc') (ss + ms'))) := rfl
theorem gt_stat1 {g : gw_Sig} {k1 k2 k3 k4 : Nat} : gw_blk ok x mc ms Q K ((pc, n, .invokestatic j, [k, 1, k1, k2, k3, k4], iv, [g]) :: es) pc' ls st S μ cc ss = (gw_r8 (st.drop k) 8 = true ∧ k ≤ st.length ∧ ∃ mc' ms', cc + mc' ≤ mc ∧ ss + ms' ≤ ms ∧ ok g mc' ms' (st.take k).reverse S μ (fun r S' μ' => gw_blk ok x mc ms Q K es (pc + n) ls (r.toList ++ st.drop k) S' μ' (cc + mc') (ss + ms'))) := rfl
theorem gt_iret : gw_blk ok x mc ms Q K ((pc, n, .ireturn, [0], iv, sg) :: es) pc' ls [.int v] S μ cc ss = (cc ≤ mc ∧ ss ≤ ms ∧ Q (some (.int v)) S μ) := rfl
theorem gt_zret : gw_blk ok x mc ms Q K ((pc, n, .ireturn, [1], iv, sg) :: es) pc' ls [.int v] S μ cc ss = ((v = 0 ∨ v = 1) ∧ cc ≤ mc ∧ ss ≤ ms ∧ Q (some (.int v)) S μ) := rfl
theorem gt_aret : gw_blk ok x mc ms Q K ((pc, n, .areturn, an, iv, sg) :: es) pc' ls [.ref r] S μ cc ss = (cc ≤ mc ∧ ss ≤ ms ∧ Q (some (.ref r)) S μ) := rfl
theorem gt_vret : gw_blk ok x mc ms Q K ((pc, n, .return_, an, iv, sg) :: es) pc' ls [] S μ cc ss = (cc ≤ mc ∧ ss ≤ ms ∧ Q none S μ) := rfl
theorem gt_rfk {f : Value → Prop} : gw_rfk (.ref r) f = f (.ref r) := rfl
theorem gt_ink {f : Int32 → Prop} : gw_ink (.int v) f = f v := rfl
end STEPS
