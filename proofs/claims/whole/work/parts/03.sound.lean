/-! ===== soundness, an instruction at a time ===== -/
def gw_len (n : Nat) : Instr → Nat
  | .aload _ => 2
  | .iload _ => 2
  | .astore _ => 2
  | .istore _ => 2
  | .bipush _ => 2
  | .ldc _ => 2
  | .newarray _ => 2
  | .sipush _ => 3
  | .ldc_w _ => 3
  | .iinc _ _ => 3
  | .ifCond _ _ => 3
  | .if_icmp _ _ => 3
  | .ifnull _ => 3
  | .ifnonnull _ => 3
  | .goto _ => 3
  | .getfield _ => 3
  | .putfield _ => 3
  | .anewarray _ => 3
  | .new _ => 3
  | .invokevirtual _ => 3
  | .invokestatic _ => 3
  | .invokespecial _ => 3
  | .tableswitch _ _ _ _ => n
  | _ => 1
def gw_at (p : Program) (l : Launch) (e : Env) (R : Room) (s : State) (m : MethodId) (args : Array Value) (below : List Frame) (meth : Method) (c : Code) (Z : State → Prop) (x : gw_C) (nL pc : Nat) : gw_Kt := fun lv st S μ cc ss =>
  ∀ (H : Heap) (locs : List Loc) (ls : Array Slot), gw_rep x S μ H locs → gw_has x ls nL lv → W p l e R s m args below meth c H locs cc ss Z (F0 m pc ls (st.map (gw_v x)))
abbrev gw_fx (p : Program) (s : State) (m : MethodId) (args : Array Value) (c : Code) (x : gw_C) (nL : Nat) (cb : ByteArray) (own : String) : Prop :=
  p.tables.exec = Jvm.exec ∧ c.code = cb ∧ c.maxLocals = nL ∧ s.vm.findClass own = some m.cls ∧ (∀ w ∈ gw_tb, w.before args s = true) ∧ gw_kk x s
section SND
variable {p : Program} {l : Launch} {e : Env} {R : Room} {s : State} {m : MethodId} {args : Array Value} {below : List Frame} {meth : Method} {c : Code} {Z : State → Prop} {x : gw_C} {nL : Nat} {cb : ByteArray} {own : String}
variable {ok : gw_Ok} {mc ms pc : Nat} {Q : Option Value → gw_S → gw_M → Prop} {K : Nat → gw_Kt} {an : List Nat} {iv : List Int32} {sg : List gw_Sig} {lv st : List Value} {S : gw_S} {μ : gw_M} {cc ss : Nat} {N : gw_Kt} {rt : Option FieldType}
theorem gw_s_iadd (F : gw_fx p s m args c x nL cb own) (hd : decode cb pc = .ok (.iadd, 1)) (hlk : gw_lk own nL rt pc (.iadd) an iv sg = true) (h : gw_step ok x mc ms Q K (.iadd) an iv sg lv st S μ cc ss N) (hN : ∀ lv st S μ cc ss, N lv st S μ cc ss → gw_at p l e R s m args below meth c Z x nL (pc + 1) lv st S μ cc ss) (hK : ∀ t lv st S μ cc ss, K t lv st S μ cc ss → gw_at p l e R s m args below meth c Z x nL t lv st S μ cc ss) : gw_at p l e R s m args below meth c Z x nL pc lv st S μ cc ss := by
  simp only [gw_step] at h
  split at h
  · rename_i b a t
    intro H locs ls hr hl
    exact lv_iadd F.1 F.2.1 hd (hN _ _ _ _ _ _ h H locs ls hr hl)
  · exact h.elim
theorem gw_s_isub (F : gw_fx p s m args c x nL cb own) (hd : decode cb pc = .ok (.isub, 1)) (hlk : gw_lk own nL rt pc (.isub) an iv sg = true) (h : gw_step ok x mc ms Q K (.isub) an iv sg lv st S μ cc ss N) (hN : ∀ lv st S μ cc ss, N lv st S μ cc ss → gw_at p l e R s m args below meth c Z x nL (pc + 1) lv st S μ cc ss) (hK : ∀ t lv st S μ cc ss, K t lv st S μ cc ss → gw_at p l e R s m args below meth c Z x nL t lv st S μ cc ss) : gw_at p l e R s m args below meth c Z x nL pc lv st S μ cc ss := by
  simp only [gw_step] at h
  split at h
  · rename_i b a t
    intro H locs ls hr hl
    exact lv_isub F.1 F.2.1 hd (hN _ _ _ _ _ _ h H locs ls hr hl)
  · exact h.elim
theorem gw_s_imul (F : gw_fx p s m args c x nL cb own) (hd : decode cb pc = .ok (.imul, 1)) (hlk : gw_lk own nL rt pc (.imul) an iv sg = true) (h : gw_step ok x mc ms Q K (.imul) an iv sg lv st S μ cc ss N) (hN : ∀ lv st S μ cc ss, N lv st S μ cc ss → gw_at p l e R s m args below meth c Z x nL (pc + 1) lv st S μ cc ss) (hK : ∀ t lv st S μ cc ss, K t lv st S μ cc ss → gw_at p l e R s m args below meth c Z x nL t lv st S μ cc ss) : gw_at p l e R s m args below meth c Z x nL pc lv st S μ cc ss := by
  simp only [gw_step] at h
  split at h
  · rename_i b a t
    intro H locs ls hr hl
    exact lv_imul F.1 F.2.1 hd (hN _ _ _ _ _ _ h H locs ls hr hl)
  · exact h.elim
theorem gw_s_iand (F : gw_fx p s m args c x nL cb own) (hd : decode cb pc = .ok (.iand, 1)) (hlk : gw_lk own nL rt pc (.iand) an iv sg = true) (h : gw_step ok x mc ms Q K (.iand) an iv sg lv st S μ cc ss N) (hN : ∀ lv st S μ cc ss, N lv st S μ cc ss → gw_at p l e R s m args below meth c Z x nL (pc + 1) lv st S μ cc ss) (hK : ∀ t lv st S μ cc ss, K t lv st S μ cc ss → gw_at p l e R s m args below meth c Z x nL t lv st S μ cc ss) : gw_at p l e R s m args below meth c Z x nL pc lv st S μ cc ss := by
  simp only [gw_step] at h
  split at h
  · rename_i b a t
    intro H locs ls hr hl
    exact lv_iand F.1 F.2.1 hd (hN _ _ _ _ _ _ h H locs ls hr hl)
  · exact h.elim
theorem gw_s_ior (F : gw_fx p s m args c x nL cb own) (hd : decode cb pc = .ok (.ior, 1)) (hlk : gw_lk own nL rt pc (.ior) an iv sg = true) (h : gw_step ok x mc ms Q K (.ior) an iv sg lv st S μ cc ss N) (hN : ∀ lv st S μ cc ss, N lv st S μ cc ss → gw_at p l e R s m args below meth c Z x nL (pc + 1) lv st S μ cc ss) (hK : ∀ t lv st S μ cc ss, K t lv st S μ cc ss → gw_at p l e R s m args below meth c Z x nL t lv st S μ cc ss) : gw_at p l e R s m args below meth c Z x nL pc lv st S μ cc ss := by
  simp only [gw_step] at h
  split at h
  · rename_i b a t
    intro H locs ls hr hl
    exact lv_ior F.1 F.2.1 hd (hN _ _ _ _ _ _ h H locs ls hr hl)
  · exact h.elim
theorem gw_s_ixor (F : gw_fx p s m args c x nL cb own) (hd : decode cb pc = .ok (.ixor, 1)) (hlk : gw_lk own nL rt pc (.ixor) an iv sg = true) (h : gw_step ok x mc ms Q K (.ixor) an iv sg lv st S μ cc ss N) (hN : ∀ lv st S μ cc ss, N lv st S μ cc ss → gw_at p l e R s m args below meth c Z x nL (pc + 1) lv st S μ cc ss) (hK : ∀ t lv st S μ cc ss, K t lv st S μ cc ss → gw_at p l e R s m args below meth c Z x nL t lv st S μ cc ss) : gw_at p l e R s m args below meth c Z x nL pc lv st S μ cc ss := by
  simp only [gw_step] at h
  split at h
  · rename_i b a t
    intro H locs ls hr hl
    exact lv_ixor F.1 F.2.1 hd (hN _ _ _ _ _ _ h H locs ls hr hl)
  · exact h.elim
theorem gw_s_ishl (F : gw_fx p s m args c x nL cb own) (hd : decode cb pc = .ok (.ishl, 1)) (hlk : gw_lk own nL rt pc (.ishl) an iv sg = true) (h : gw_step ok x mc ms Q K (.ishl) an iv sg lv st S μ cc ss N) (hN : ∀ lv st S μ cc ss, N lv st S μ cc ss → gw_at p l e R s m args below meth c Z x nL (pc + 1) lv st S μ cc ss) (hK : ∀ t lv st S μ cc ss, K t lv st S μ cc ss → gw_at p l e R s m args below meth c Z x nL t lv st S μ cc ss) : gw_at p l e R s m args below meth c Z x nL pc lv st S μ cc ss := by
  simp only [gw_step] at h
  split at h
  · rename_i b a t
    intro H locs ls hr hl
    exact lv_ishl F.1 F.2.1 hd (hN _ _ _ _ _ _ h H locs ls hr hl)
  · exact h.elim
theorem gw_s_ishr (F : gw_fx p s m args c x nL cb own) (hd : decode cb pc = .ok (.ishr, 1)) (hlk : gw_lk own nL rt pc (.ishr) an iv sg = true) (h : gw_step ok x mc ms Q K (.ishr) an iv sg lv st S μ cc ss N) (hN : ∀ lv st S μ cc ss, N lv st S μ cc ss → gw_at p l e R s m args below meth c Z x nL (pc + 1) lv st S μ cc ss) (hK : ∀ t lv st S μ cc ss, K t lv st S μ cc ss → gw_at p l e R s m args below meth c Z x nL t lv st S μ cc ss) : gw_at p l e R s m args below meth c Z x nL pc lv st S μ cc ss := by
  simp only [gw_step] at h
  split at h
  · rename_i b a t
    intro H locs ls hr hl
    exact lv_ishr F.1 F.2.1 hd (hN _ _ _ _ _ _ h H locs ls hr hl)
  · exact h.elim
theorem gw_s_iushr (F : gw_fx p s m args c x nL cb own) (hd : decode cb pc = .ok (.iushr, 1)) (hlk : gw_lk own nL rt pc (.iushr) an iv sg = true) (h : gw_step ok x mc ms Q K (.iushr) an iv sg lv st S μ cc ss N) (hN : ∀ lv st S μ cc ss, N lv st S μ cc ss → gw_at p l e R s m args below meth c Z x nL (pc + 1) lv st S μ cc ss) (hK : ∀ t lv st S μ cc ss, K t lv st S μ cc ss → gw_at p l e R s m args below meth c Z x nL t lv st S μ cc ss) : gw_at p l e R s m args below meth c Z x nL pc lv st S μ cc ss := by
  simp only [gw_step] at h
  split at h
  · rename_i b a t
    intro H locs ls hr hl
    exact lv_iushr F.1 F.2.1 hd rfl (hN _ _ _ _ _ _ h H locs ls hr hl)
  · exact h.elim
theorem gw_s_idiv (F : gw_fx p s m args c x nL cb own) (hd : decode cb pc = .ok (.idiv, 1)) (hlk : gw_lk own nL rt pc (.idiv) an iv sg = true) (h : gw_step ok x mc ms Q K (.idiv) an iv sg lv st S μ cc ss N) (hN : ∀ lv st S μ cc ss, N lv st S μ cc ss → gw_at p l e R s m args below meth c Z x nL (pc + 1) lv st S μ cc ss) (hK : ∀ t lv st S μ cc ss, K t lv st S μ cc ss → gw_at p l e R s m args below meth c Z x nL t lv st S μ cc ss) : gw_at p l e R s m args below meth c Z x nL pc lv st S μ cc ss := by
  simp only [gw_step] at h
  split at h
  · rename_i b a t
    intro H locs ls hr hl
    exact lv_idiv F.1 F.2.1 hd h.1 (hN _ _ _ _ _ _ h.2 H locs ls hr hl)
  · exact h.elim
theorem gw_s_irem (F : gw_fx p s m args c x nL cb own) (hd : decode cb pc = .ok (.irem, 1)) (hlk : gw_lk own nL rt pc (.irem) an iv sg = true) (h : gw_step ok x mc ms Q K (.irem) an iv sg lv st S μ cc ss N) (hN : ∀ lv st S μ cc ss, N lv st S μ cc ss → gw_at p l e R s m args below meth c Z x nL (pc + 1) lv st S μ cc ss) (hK : ∀ t lv st S μ cc ss, K t lv st S μ cc ss → gw_at p l e R s m args below meth c Z x nL t lv st S μ cc ss) : gw_at p l e R s m args below meth c Z x nL pc lv st S μ cc ss := by
  simp only [gw_step] at h
  split at h
  · rename_i b a t
    intro H locs ls hr hl
    exact lv_irem F.1 F.2.1 hd h.1 (hN _ _ _ _ _ _ h.2 H locs ls hr hl)
  · exact h.elim
theorem gw_s_lcmp (F : gw_fx p s m args c x nL cb own) (hd : decode cb pc = .ok (.lcmp, 1)) (hlk : gw_lk own nL rt pc (.lcmp) an iv sg = true) (h : gw_step ok x mc ms Q K (.lcmp) an iv sg lv st S μ cc ss N) (hN : ∀ lv st S μ cc ss, N lv st S μ cc ss → gw_at p l e R s m args below meth c Z x nL (pc + 1) lv st S μ cc ss) (hK : ∀ t lv st S μ cc ss, K t lv st S μ cc ss → gw_at p l e R s m args below meth c Z x nL t lv st S μ cc ss) : gw_at p l e R s m args below meth c Z x nL pc lv st S μ cc ss := by
  simp only [gw_step] at h
  split at h
  · rename_i b a t
    intro H locs ls hr hl
    exact W.lcmp F.1 F.2.1 hd (hN _ _ _ _ _ _ h H locs ls hr hl)
  · exact h.elim
theorem gw_s_dup (F : gw_fx p s m args c x nL cb own) (hd : decode cb pc = .ok (.dup, 1)) (hlk : gw_lk own nL rt pc (.dup) an iv sg = true) (h : gw_step ok x mc ms Q K (.dup) an iv sg lv st S μ cc ss N) (hN : ∀ lv st S μ cc ss, N lv st S μ cc ss → gw_at p l e R s m args below meth c Z x nL (pc + 1) lv st S μ cc ss) (hK : ∀ t lv st S μ cc ss, K t lv st S μ cc ss → gw_at p l e R s m args below meth c Z x nL t lv st S μ cc ss) : gw_at p l e R s m args below meth c Z x nL pc lv st S μ cc ss := by
  simp only [gw_step] at h
  split at h
  · rename_i a t
    intro H locs ls hr hl
    exact lv_dup F.1 F.2.1 hd rfl (hN _ _ _ _ _ _ h H locs ls hr hl)
  · rename_i a t
    intro H locs ls hr hl
    exact lv_dup F.1 F.2.1 hd (gw_v_cat x rfl) (hN _ _ _ _ _ _ h H locs ls hr hl)
  · exact h.elim
theorem gw_s_dup2 (F : gw_fx p s m args c x nL cb own) (hd : decode cb pc = .ok (.dup2, 1)) (hlk : gw_lk own nL rt pc (.dup2) an iv sg = true) (h : gw_step ok x mc ms Q K (.dup2) an iv sg lv st S μ cc ss N) (hN : ∀ lv st S μ cc ss, N lv st S μ cc ss → gw_at p l e R s m args below meth c Z x nL (pc + 1) lv st S μ cc ss) (hK : ∀ t lv st S μ cc ss, K t lv st S μ cc ss → gw_at p l e R s m args below meth c Z x nL t lv st S μ cc ss) : gw_at p l e R s m args below meth c Z x nL pc lv st S μ cc ss := by
  simp only [gw_step] at h
  split at h
  · rename_i b a t
    intro H locs ls hr hl
    exact lv_dup2_11 F.1 F.2.1 hd rfl (gw_v_cat x rfl) (hN _ _ _ _ _ _ h H locs ls hr hl)
  · exact h.elim
theorem gw_s_pop (F : gw_fx p s m args c x nL cb own) (hd : decode cb pc = .ok (.pop, 1)) (hlk : gw_lk own nL rt pc (.pop) an iv sg = true) (h : gw_step ok x mc ms Q K (.pop) an iv sg lv st S μ cc ss N) (hN : ∀ lv st S μ cc ss, N lv st S μ cc ss → gw_at p l e R s m args below meth c Z x nL (pc + 1) lv st S μ cc ss) (hK : ∀ t lv st S μ cc ss, K t lv st S μ cc ss → gw_at p l e R s m args below meth c Z x nL t lv st S μ cc ss) : gw_at p l e R s m args below meth c Z x nL pc lv st S μ cc ss := by
  simp only [gw_step] at h
  split at h
  · rename_i a t
    intro H locs ls hr hl
    exact lv_pop F.1 F.2.1 hd rfl (hN _ _ _ _ _ _ h H locs ls hr hl)
  · rename_i a t
    intro H locs ls hr hl
    exact lv_pop F.1 F.2.1 hd (gw_v_cat x rfl) (hN _ _ _ _ _ _ h H locs ls hr hl)
  · exact h.elim
variable {k : Int}
theorem gw_s_iconst (F : gw_fx p s m args c x nL cb own) (hd : decode cb pc = .ok (.iconst k, 1)) (hlk : gw_lk own nL rt pc (.iconst k) an iv sg = true) (h : gw_step ok x mc ms Q K (.iconst k) an iv sg lv st S μ cc ss N) (hN : ∀ lv st S μ cc ss, N lv st S μ cc ss → gw_at p l e R s m args below meth c Z x nL (pc + 1) lv st S μ cc ss) (hK : ∀ t lv st S μ cc ss, K t lv st S μ cc ss → gw_at p l e R s m args below meth c Z x nL t lv st S μ cc ss) : gw_at p l e R s m args below meth c Z x nL pc lv st S μ cc ss := by
  simp only [gw_step] at h
  split at h
  · rename_i w
    intro H locs ls hr hl
    simp only [gw_lk, decide_eq_true_eq, List.cons.injEq, and_true] at hlk
    exact lv_iconst F.1 F.2.1 hd hlk.symm (hN _ _ _ _ _ _ h H locs ls hr hl)
  · exact h.elim

theorem gw_s_bipush (F : gw_fx p s m args c x nL cb own) (hd : decode cb pc = .ok (.bipush k, 2)) (hlk : gw_lk own nL rt pc (.bipush k) an iv sg = true) (h : gw_step ok x mc ms Q K (.bipush k) an iv sg lv st S μ cc ss N) (hN : ∀ lv st S μ cc ss, N lv st S μ cc ss → gw_at p l e R s m args below meth c Z x nL (pc + 2) lv st S μ cc ss) (hK : ∀ t lv st S μ cc ss, K t lv st S μ cc ss → gw_at p l e R s m args below meth c Z x nL t lv st S μ cc ss) : gw_at p l e R s m args below meth c Z x nL pc lv st S μ cc ss := by
  simp only [gw_step] at h
  split at h
  · rename_i w
    intro H locs ls hr hl
    simp only [gw_lk, decide_eq_true_eq, List.cons.injEq, and_true] at hlk
    exact lv_bipush F.1 F.2.1 hd hlk.symm (hN _ _ _ _ _ _ h H locs ls hr hl)
  · exact h.elim

theorem gw_s_sipush (F : gw_fx p s m args c x nL cb own) (hd : decode cb pc = .ok (.sipush k, 3)) (hlk : gw_lk own nL rt pc (.sipush k) an iv sg = true) (h : gw_step ok x mc ms Q K (.sipush k) an iv sg lv st S μ cc ss N) (hN : ∀ lv st S μ cc ss, N lv st S μ cc ss → gw_at p l e R s m args below meth c Z x nL (pc + 3) lv st S μ cc ss) (hK : ∀ t lv st S μ cc ss, K t lv st S μ cc ss → gw_at p l e R s m args below meth c Z x nL t lv st S μ cc ss) : gw_at p l e R s m args below meth c Z x nL pc lv st S μ cc ss := by
  simp only [gw_step] at h
  split at h
  · rename_i w
    intro H locs ls hr hl
    simp only [gw_lk, decide_eq_true_eq, List.cons.injEq, and_true] at hlk
    exact lv_sipush F.1 F.2.1 hd hlk.symm (hN _ _ _ _ _ _ h H locs ls hr hl)
  · exact h.elim
variable {j : Nat}
theorem gw_s_ldc (F : gw_fx p s m args c x nL cb own) (hd : decode cb pc = .ok (.ldc j, 2)) (hlk : gw_lk own nL rt pc (.ldc j) an iv sg = true) (h : gw_step ok x mc ms Q K (.ldc j) an iv sg lv st S μ cc ss N) (hN : ∀ lv st S μ cc ss, N lv st S μ cc ss → gw_at p l e R s m args below meth c Z x nL (pc + 2) lv st S μ cc ss) (hK : ∀ t lv st S μ cc ss, K t lv st S μ cc ss → gw_at p l e R s m args below meth c Z x nL t lv st S μ cc ss) : gw_at p l e R s m args below meth c Z x nL pc lv st S μ cc ss := by
  simp only [gw_step] at h
  simp only [gw_lk] at hlk
  split at h
  · split at hlk
    · rename_i heq
      cases heq
      intro H locs ls hr hl
      exact lv_ldc F.1 F.2.1 F.2.2.2.1 (F.2.2.2.2.1 _ (gw_is_spec hlk)) hd (hN _ _ _ _ _ _ h H locs ls hr hl)
    · cases hlk
  · exact h.elim
theorem gw_s_ldc_w (F : gw_fx p s m args c x nL cb own) (hd : decode cb pc = .ok (.ldc_w j, 3)) (hlk : gw_lk own nL rt pc (.ldc_w j) an iv sg = true) (h : gw_step ok x mc ms Q K (.ldc_w j) an iv sg lv st S μ cc ss N) (hN : ∀ lv st S μ cc ss, N lv st S μ cc ss → gw_at p l e R s m args below meth c Z x nL (pc + 3) lv st S μ cc ss) (hK : ∀ t lv st S μ cc ss, K t lv st S μ cc ss → gw_at p l e R s m args below meth c Z x nL t lv st S μ cc ss) : gw_at p l e R s m args below meth c Z x nL pc lv st S μ cc ss := by
  simp only [gw_step] at h
  simp only [gw_lk] at hlk
  split at h
  · split at hlk
    · rename_i heq
      cases heq
      intro H locs ls hr hl
      exact lv_ldcw F.1 F.2.1 F.2.2.2.1 (F.2.2.2.2.1 _ (gw_is_spec hlk)) hd (hN _ _ _ _ _ _ h H locs ls hr hl)
    · cases hlk
  · exact h.elim
variable {jn : Fin 4}
theorem gw_s_aload_n (F : gw_fx p s m args c x nL cb own) (hd : decode cb pc = .ok (.aload_n jn, 1)) (hlk : gw_lk own nL rt pc (.aload_n jn) an iv sg = true) (h : gw_step ok x mc ms Q K (.aload_n jn) an iv sg lv st S μ cc ss N) (hN : ∀ lv st S μ cc ss, N lv st S μ cc ss → gw_at p l e R s m args below meth c Z x nL (pc + 1) lv st S μ cc ss) (hK : ∀ t lv st S μ cc ss, K t lv st S μ cc ss → gw_at p l e R s m args below meth c Z x nL t lv st S μ cc ss) : gw_at p l e R s m args below meth c Z x nL pc lv st S μ cc ss := by
  simp only [gw_step] at h
  simp only [gw_lk, decide_eq_true_eq] at hlk
  subst hlk
  dsimp only at h
  cases hv : gw_nth lv jn.val with
  | ref v =>
    rw [hv] at h
    intro H locs ls hr hl
    have h5 := hl.2.2.2.2 jn.val (by rw [hv]; exact fun q => by cases q)
    rw [hv] at h5
    cases v with
    | zero => exact lv_aload_nN F.1 F.2.1 hd rfl h5 (hN _ _ _ _ _ _ h H locs ls hr hl)
    | succ v => exact lv_aload_n F.1 F.2.1 hd rfl h5 (hN _ _ _ _ _ _ h H locs ls hr hl)
  | retAddr v =>
    rw [hv] at h
    match v, hv, h with
    | 1, hv, h =>
      intro H locs ls hr hl
      have h5 := hl.2.2.2.2 jn.val (by rw [hv]; exact fun q => by cases q)
      rw [hv] at h5
      exact lv_aload_n F.1 F.2.1 hd rfl h5 (hN _ _ _ _ _ _ h H locs ls hr hl)
    | 0, _, h => exact h.elim
    | _ + 2, _, h => exact h.elim
  | _ => rw [hv] at h; exact h.elim
theorem gw_s_aload (F : gw_fx p s m args c x nL cb own) (hd : decode cb pc = .ok (.aload j, 2)) (hlk : gw_lk own nL rt pc (.aload j) an iv sg = true) (h : gw_step ok x mc ms Q K (.aload j) an iv sg lv st S μ cc ss N) (hN : ∀ lv st S μ cc ss, N lv st S μ cc ss → gw_at p l e R s m args below meth c Z x nL (pc + 2) lv st S μ cc ss) (hK : ∀ t lv st S μ cc ss, K t lv st S μ cc ss → gw_at p l e R s m args below meth c Z x nL t lv st S μ cc ss) : gw_at p l e R s m args below meth c Z x nL pc lv st S μ cc ss := by
  simp only [gw_step] at h
  simp only [gw_lk, decide_eq_true_eq] at hlk
  subst hlk
  dsimp only at h
  cases hv : gw_nth lv j with
  | ref v =>
    rw [hv] at h
    intro H locs ls hr hl
    have h5 := hl.2.2.2.2 j (by rw [hv]; exact fun q => by cases q)
    rw [hv] at h5
    cases v with
    | zero => exact lv_aloadN F.1 F.2.1 hd h5 (hN _ _ _ _ _ _ h H locs ls hr hl)
    | succ v => exact lv_aload F.1 F.2.1 hd h5 (hN _ _ _ _ _ _ h H locs ls hr hl)
  | retAddr v =>
    rw [hv] at h
    match v, hv, h with
    | 1, hv, h =>
      intro H locs ls hr hl
      have h5 := hl.2.2.2.2 j (by rw [hv]; exact fun q => by cases q)
      rw [hv] at h5
      exact lv_aload F.1 F.2.1 hd h5 (hN _ _ _ _ _ _ h H locs ls hr hl)
    | 0, _, h => exact h.elim
    | _ + 2, _, h => exact h.elim
  | _ => rw [hv] at h; exact h.elim
theorem gw_s_iload_n (F : gw_fx p s m args c x nL cb own) (hd : decode cb pc = .ok (.iload_n jn, 1)) (hlk : gw_lk own nL rt pc (.iload_n jn) an iv sg = true) (h : gw_step ok x mc ms Q K (.iload_n jn) an iv sg lv st S μ cc ss N) (hN : ∀ lv st S μ cc ss, N lv st S μ cc ss → gw_at p l e R s m args below meth c Z x nL (pc + 1) lv st S μ cc ss) (hK : ∀ t lv st S μ cc ss, K t lv st S μ cc ss → gw_at p l e R s m args below meth c Z x nL t lv st S μ cc ss) : gw_at p l e R s m args below meth c Z x nL pc lv st S μ cc ss := by
  simp only [gw_step] at h
  simp only [gw_lk, decide_eq_true_eq] at hlk
  subst hlk
  dsimp only at h
  cases hv : gw_nth lv jn.val with
  | int v =>
    rw [hv] at h
    intro H locs ls hr hl
    have h5 := hl.2.2.2.2 jn.val (by rw [hv]; exact fun q => by cases q)
    rw [hv] at h5
    exact lv_iload_n F.1 F.2.1 hd rfl h5 (hN _ _ _ _ _ _ h H locs ls hr hl)
  | _ => rw [hv] at h; exact h.elim
theorem gw_s_iload (F : gw_fx p s m args c x nL cb own) (hd : decode cb pc = .ok (.iload j, 2)) (hlk : gw_lk own nL rt pc (.iload j) an iv sg = true) (h : gw_step ok x mc ms Q K (.iload j) an iv sg lv st S μ cc ss N) (hN : ∀ lv st S μ cc ss, N lv st S μ cc ss → gw_at p l e R s m args below meth c Z x nL (pc + 2) lv st S μ cc ss) (hK : ∀ t lv st S μ cc ss, K t lv st S μ cc ss → gw_at p l e R s m args below meth c Z x nL t lv st S μ cc ss) : gw_at p l e R s m args below meth c Z x nL pc lv st S μ cc ss := by
  simp only [gw_step] at h
  simp only [gw_lk, decide_eq_true_eq] at hlk
  subst hlk
  dsimp only at h
  cases hv : gw_nth lv j with
  | int v =>
    rw [hv] at h
    intro H locs ls hr hl
    have h5 := hl.2.2.2.2 j (by rw [hv]; exact fun q => by cases q)
    rw [hv] at h5
    exact lv_iload F.1 F.2.1 hd h5 (hN _ _ _ _ _ _ h H locs ls hr hl)
  | _ => rw [hv] at h; exact h.elim
theorem gw_s_astore_n (F : gw_fx p s m args c x nL cb own) (hd : decode cb pc = .ok (.astore_n jn, 1)) (hlk : gw_lk own nL rt pc (.astore_n jn) an iv sg = true) (h : gw_step ok x mc ms Q K (.astore_n jn) an iv sg lv st S μ cc ss N) (hN : ∀ lv st S μ cc ss, N lv st S μ cc ss → gw_at p l e R s m args below meth c Z x nL (pc + 1) lv st S μ cc ss) (hK : ∀ t lv st S μ cc ss, K t lv st S μ cc ss → gw_at p l e R s m args below meth c Z x nL t lv st S μ cc ss) : gw_at p l e R s m args below meth c Z x nL pc lv st S μ cc ss := by
  simp only [gw_step] at h
  simp only [gw_lk, Bool.and_eq_true, decide_eq_true_eq] at hlk
  split at h
  · rename_i k0 r t
    obtain ⟨h1, h2⟩ := hlk
    cases h1
    have hlk : True ∧ jn.val < nL := ⟨trivial, h2⟩
    intro H locs ls hr hl
    cases r with
    | zero => exact lv_astore_nN F.1 F.2.1 hd rfl (gw_has_lv hl) hlk.2 rfl (fun ls' h' => hN _ _ _ _ _ _ h H locs ls' hr (gw_has_set hl hlk.2 rfl h'))
    | succ r => exact lv_astore_n F.1 F.2.1 hd rfl (gw_has_lv hl) hlk.2 rfl (fun ls' h' => hN _ _ _ _ _ _ h H locs ls' hr (gw_has_set hl hlk.2 rfl h'))
  · exact h.elim
theorem gw_s_astore (F : gw_fx p s m args c x nL cb own) (hd : decode cb pc = .ok (.astore j, 2)) (hlk : gw_lk own nL rt pc (.astore j) an iv sg = true) (h : gw_step ok x mc ms Q K (.astore j) an iv sg lv st S μ cc ss N) (hN : ∀ lv st S μ cc ss, N lv st S μ cc ss → gw_at p l e R s m args below meth c Z x nL (pc + 2) lv st S μ cc ss) (hK : ∀ t lv st S μ cc ss, K t lv st S μ cc ss → gw_at p l e R s m args below meth c Z x nL t lv st S μ cc ss) : gw_at p l e R s m args below meth c Z x nL pc lv st S μ cc ss := by
  simp only [gw_step] at h
  simp only [gw_lk, Bool.and_eq_true, decide_eq_true_eq] at hlk
  split at h
  · rename_i k0 r t
    obtain ⟨h1, h2⟩ := hlk
    cases h1
    have hlk : True ∧ j < nL := ⟨trivial, h2⟩
    intro H locs ls hr hl
    cases r with
    | zero => exact lv_astoreN F.1 F.2.1 hd (gw_has_lv hl) hlk.2 rfl (fun ls' h' => hN _ _ _ _ _ _ h H locs ls' hr (gw_has_set hl hlk.2 rfl h'))
    | succ r => exact lv_astore F.1 F.2.1 hd (gw_has_lv hl) hlk.2 rfl (fun ls' h' => hN _ _ _ _ _ _ h H locs ls' hr (gw_has_set hl hlk.2 rfl h'))
  · exact h.elim
theorem gw_s_istore_n (F : gw_fx p s m args c x nL cb own) (hd : decode cb pc = .ok (.istore_n jn, 1)) (hlk : gw_lk own nL rt pc (.istore_n jn) an iv sg = true) (h : gw_step ok x mc ms Q K (.istore_n jn) an iv sg lv st S μ cc ss N) (hN : ∀ lv st S μ cc ss, N lv st S μ cc ss → gw_at p l e R s m args below meth c Z x nL (pc + 1) lv st S μ cc ss) (hK : ∀ t lv st S μ cc ss, K t lv st S μ cc ss → gw_at p l e R s m args below meth c Z x nL t lv st S μ cc ss) : gw_at p l e R s m args below meth c Z x nL pc lv st S μ cc ss := by
  simp only [gw_step] at h
  simp only [gw_lk, Bool.and_eq_true, decide_eq_true_eq] at hlk
  split at h
  · rename_i k0 r t
    obtain ⟨h1, h2⟩ := hlk
    cases h1
    have hlk : True ∧ jn.val < nL := ⟨trivial, h2⟩
    intro H locs ls hr hl
    exact lv_istore_n F.1 F.2.1 hd rfl (gw_has_lv hl) hlk.2 rfl (fun ls' h' => hN _ _ _ _ _ _ h H locs ls' hr (gw_has_set hl hlk.2 rfl h'))
  · exact h.elim
theorem gw_s_istore (F : gw_fx p s m args c x nL cb own) (hd : decode cb pc = .ok (.istore j, 2)) (hlk : gw_lk own nL rt pc (.istore j) an iv sg = true) (h : gw_step ok x mc ms Q K (.istore j) an iv sg lv st S μ cc ss N) (hN : ∀ lv st S μ cc ss, N lv st S μ cc ss → gw_at p l e R s m args below meth c Z x nL (pc + 2) lv st S μ cc ss) (hK : ∀ t lv st S μ cc ss, K t lv st S μ cc ss → gw_at p l e R s m args below meth c Z x nL t lv st S μ cc ss) : gw_at p l e R s m args below meth c Z x nL pc lv st S μ cc ss := by
  simp only [gw_step] at h
  simp only [gw_lk, Bool.and_eq_true, decide_eq_true_eq] at hlk
  split at h
  · rename_i k0 r t
    obtain ⟨h1, h2⟩ := hlk
    cases h1
    have hlk : True ∧ j < nL := ⟨trivial, h2⟩
    intro H locs ls hr hl
    exact lv_istore F.1 F.2.1 hd (gw_has_lv hl) hlk.2 rfl (fun ls' h' => hN _ _ _ _ _ _ h H locs ls' hr (gw_has_set hl hlk.2 rfl h'))
  · exact h.elim
theorem gw_s_iinc (F : gw_fx p s m args c x nL cb own) (hd : decode cb pc = .ok (.iinc j k, 3)) (hlk : gw_lk own nL rt pc (.iinc j k) an iv sg = true) (h : gw_step ok x mc ms Q K (.iinc j k) an iv sg lv st S μ cc ss N) (hN : ∀ lv st S μ cc ss, N lv st S μ cc ss → gw_at p l e R s m args below meth c Z x nL (pc + 3) lv st S μ cc ss) (hK : ∀ t lv st S μ cc ss, K t lv st S μ cc ss → gw_at p l e R s m args below meth c Z x nL t lv st S μ cc ss) : gw_at p l e R s m args below meth c Z x nL pc lv st S μ cc ss := by
  simp only [gw_step] at h
  simp only [gw_lk, Bool.and_eq_true, decide_eq_true_eq] at hlk
  obtain ⟨⟨h1, h2⟩, h3⟩ := hlk
  subst h1
  subst h3
  dsimp only at h
  cases hv : gw_nth lv j with
  | int v =>
    rw [hv] at h
    intro H locs ls hr hl
    have hm : (j, Value.int v) ∈ gw_lvl x lv := by
      refine List.mem_filterMap.mpr ⟨j, List.mem_range.mpr (by have := hl.2.2.1; omega), ?_⟩
      simp [hv, gw_v]
    obtain ⟨q, hq⟩ := List.getElem?_of_mem hm
    exact lv_iinc F.1 F.2.1 hd (gw_has_lv hl) hq rfl h2 rfl (fun ls' h' => hN _ _ _ _ _ _ h H locs ls' hr (gw_has_set hl h2 rfl h'))
  | _ => rw [hv] at h; exact h.elim
variable {q : ClassFile.Cond} {off : Int}
theorem gw_s_ifCond (F : gw_fx p s m args c x nL cb own) (hd : decode cb pc = .ok (.ifCond q off, 3)) (hlk : gw_lk own nL rt pc (.ifCond q off) an iv sg = true) (h : gw_step ok x mc ms Q K (.ifCond q off) an iv sg lv st S μ cc ss N) (hN : ∀ lv st S μ cc ss, N lv st S μ cc ss → gw_at p l e R s m args below meth c Z x nL (pc + 3) lv st S μ cc ss) (hK : ∀ t lv st S μ cc ss, K t lv st S μ cc ss → gw_at p l e R s m args below meth c Z x nL t lv st S μ cc ss) : gw_at p l e R s m args below meth c Z x nL pc lv st S μ cc ss := by
  simp only [gw_step] at h
  simp only [gw_lk] at hlk
  split at h
  · simp only [decide_eq_true_eq] at hlk
    obtain ⟨hk1, hk2⟩ := h
    intro H locs ls hr hl
    cases q with
    | eq => exact lv_if_eq F.1 F.2.1 hd hlk (fun z => hK _ _ _ _ _ _ _ (hk1 z) H locs ls hr hl) (fun z => hN _ _ _ _ _ _ (hk2 z) H locs ls hr hl)
    | ne => exact lv_if_ne F.1 F.2.1 hd hlk (fun z => hK _ _ _ _ _ _ _ (hk1 z) H locs ls hr hl) (fun z => hN _ _ _ _ _ _ (hk2 (fun y => y z)) H locs ls hr hl)
    | lt => exact lv_if_lt F.1 F.2.1 hd hlk (fun z => hK _ _ _ _ _ _ _ (hk1 z) H locs ls hr hl) (fun z => hN _ _ _ _ _ _ (hk2 z) H locs ls hr hl)
    | ge => exact lv_if_ge F.1 F.2.1 hd hlk (fun z => hK _ _ _ _ _ _ _ (hk1 z) H locs ls hr hl) (fun z => hN _ _ _ _ _ _ (hk2 z) H locs ls hr hl)
    | gt => exact lv_if_gt F.1 F.2.1 hd hlk (fun z => hK _ _ _ _ _ _ _ (hk1 z) H locs ls hr hl) (fun z => hN _ _ _ _ _ _ (hk2 z) H locs ls hr hl)
    | le => exact lv_if_le F.1 F.2.1 hd hlk (fun z => hK _ _ _ _ _ _ _ (hk1 z) H locs ls hr hl) (fun z => hN _ _ _ _ _ _ (hk2 z) H locs ls hr hl)
  · exact h.elim
theorem gw_s_if_icmp (F : gw_fx p s m args c x nL cb own) (hd : decode cb pc = .ok (.if_icmp q off, 3)) (hlk : gw_lk own nL rt pc (.if_icmp q off) an iv sg = true) (h : gw_step ok x mc ms Q K (.if_icmp q off) an iv sg lv st S μ cc ss N) (hN : ∀ lv st S μ cc ss, N lv st S μ cc ss → gw_at p l e R s m args below meth c Z x nL (pc + 3) lv st S μ cc ss) (hK : ∀ t lv st S μ cc ss, K t lv st S μ cc ss → gw_at p l e R s m args below meth c Z x nL t lv st S μ cc ss) : gw_at p l e R s m args below meth c Z x nL pc lv st S μ cc ss := by
  simp only [gw_step] at h
  simp only [gw_lk] at hlk
  split at h
  · simp only [decide_eq_true_eq] at hlk
    obtain ⟨hk1, hk2⟩ := h
    intro H locs ls hr hl
    cases q with
    | eq => exact lv_icmp_eq F.1 F.2.1 hd hlk (fun z => hK _ _ _ _ _ _ _ (hk1 z) H locs ls hr hl) (fun z => hN _ _ _ _ _ _ (hk2 z) H locs ls hr hl)
    | ne => exact lv_icmp_ne F.1 F.2.1 hd hlk (fun z => hK _ _ _ _ _ _ _ (hk1 z) H locs ls hr hl) (fun z => hN _ _ _ _ _ _ (hk2 (fun y => y z)) H locs ls hr hl)
    | lt => exact lv_icmp_lt F.1 F.2.1 hd hlk (fun z => hK _ _ _ _ _ _ _ (hk1 z) H locs ls hr hl) (fun z => hN _ _ _ _ _ _ (hk2 z) H locs ls hr hl)
    | ge => exact lv_icmp_ge F.1 F.2.1 hd hlk (fun z => hK _ _ _ _ _ _ _ (hk1 z) H locs ls hr hl) (fun z => hN _ _ _ _ _ _ (hk2 z) H locs ls hr hl)
    | gt => exact lv_icmp_gt F.1 F.2.1 hd hlk (fun z => hK _ _ _ _ _ _ _ (hk1 z) H locs ls hr hl) (fun z => hN _ _ _ _ _ _ (hk2 z) H locs ls hr hl)
    | le => exact lv_icmp_le F.1 F.2.1 hd hlk (fun z => hK _ _ _ _ _ _ _ (hk1 z) H locs ls hr hl) (fun z => hN _ _ _ _ _ _ (hk2 z) H locs ls hr hl)
  · exact h.elim
theorem gw_s_ifnull (F : gw_fx p s m args c x nL cb own) (hd : decode cb pc = .ok (.ifnull off, 3)) (hlk : gw_lk own nL rt pc (.ifnull off) an iv sg = true) (h : gw_step ok x mc ms Q K (.ifnull off) an iv sg lv st S μ cc ss N) (hN : ∀ lv st S μ cc ss, N lv st S μ cc ss → gw_at p l e R s m args below meth c Z x nL (pc + 3) lv st S μ cc ss) (hK : ∀ t lv st S μ cc ss, K t lv st S μ cc ss → gw_at p l e R s m args below meth c Z x nL t lv st S μ cc ss) : gw_at p l e R s m args below meth c Z x nL pc lv st S μ cc ss := by
  simp only [gw_step] at h
  simp only [gw_lk] at hlk
  split at h
  · rename_i a t
    simp only [decide_eq_true_eq] at hlk
    intro H locs ls hr hl
    cases a with
    | zero => exact lv_ifnullN F.1 F.2.1 hd hlk (hK _ _ _ _ _ _ _ (h.1 rfl) H locs ls hr hl)
    | succ a => exact lv_ifnull F.1 F.2.1 hd (hN _ _ _ _ _ _ (h.2 (Nat.succ_ne_zero _)) H locs ls hr hl)
  · exact h.elim
theorem gw_s_ifnonnull (F : gw_fx p s m args c x nL cb own) (hd : decode cb pc = .ok (.ifnonnull off, 3)) (hlk : gw_lk own nL rt pc (.ifnonnull off) an iv sg = true) (h : gw_step ok x mc ms Q K (.ifnonnull off) an iv sg lv st S μ cc ss N) (hN : ∀ lv st S μ cc ss, N lv st S μ cc ss → gw_at p l e R s m args below meth c Z x nL (pc + 3) lv st S μ cc ss) (hK : ∀ t lv st S μ cc ss, K t lv st S μ cc ss → gw_at p l e R s m args below meth c Z x nL t lv st S μ cc ss) : gw_at p l e R s m args below meth c Z x nL pc lv st S μ cc ss := by
  simp only [gw_step] at h
  simp only [gw_lk] at hlk
  split at h
  · rename_i a t
    simp only [decide_eq_true_eq] at hlk
    intro H locs ls hr hl
    cases a with
    | zero => exact lv_ifnonnullN F.1 F.2.1 hd (hN _ _ _ _ _ _ (h.2 rfl) H locs ls hr hl)
    | succ a => exact lv_ifnonnull F.1 F.2.1 hd hlk (hK _ _ _ _ _ _ _ (h.1 (Nat.succ_ne_zero _)) H locs ls hr hl)
  · exact h.elim
theorem gw_s_goto (F : gw_fx p s m args c x nL cb own) (hd : decode cb pc = .ok (.goto off, 3)) (hlk : gw_lk own nL rt pc (.goto off) an iv sg = true) (h : gw_step ok x mc ms Q K (.goto off) an iv sg lv st S μ cc ss N) (hN : ∀ lv st S μ cc ss, N lv st S μ cc ss → gw_at p l e R s m args below meth c Z x nL (pc + 3) lv st S μ cc ss) (hK : ∀ t lv st S μ cc ss, K t lv st S μ cc ss → gw_at p l e R s m args below meth c Z x nL t lv st S μ cc ss) : gw_at p l e R s m args below meth c Z x nL pc lv st S μ cc ss := by
  simp only [gw_step] at h
  simp only [gw_lk] at hlk
  split at h
  · simp only [decide_eq_true_eq] at hlk
    intro H locs ls hr hl
    exact lv_goto F.1 F.2.1 hd hlk (hK _ _ _ _ _ _ _ h H locs ls hr hl)
  · exact h.elim
end SND
