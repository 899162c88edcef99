/-! ===== soundness: fields, arrays, new cells ===== -/
section SND5
variable {p : Program} {l : Launch} {e : Env} {R : Room} {s : State} {m : MethodId} {args : Array Value} {below : List Frame} {meth : Method} {c : Code} {Z : State → Prop} {x : gw_C} {nL : Nat} {cb : ByteArray} {own : String}
variable {d : Nat} {mc ms pc : Nat} {Q : Option Value → gw_S → gw_M → Prop} {K : Nat → gw_Kt} {an : List Nat} {iv : List Int32} {sg : List gw_Sig} {lv st : List Value} {S : gw_S} {μ : gw_M} {cc ss : Nat} {N : gw_Kt} {rt : Option FieldType} {j : Nat}
theorem gw_r8_sum (x : gw_C) : ∀ (l : List Value) (n : Nat), gw_r8 l n = true → ((l.map (gw_v x)).map fun v => v.category).sum ≤ n
  | [], n, _ => by simp
  | v :: l, 0, h => by cases v <;> simp [gw_r8] at h
  | v :: l, n + 1, h => by
    have hc : v.category = 1 ∧ gw_r8 l n = true := by
      cases v <;> simp [gw_r8] at h <;> exact ⟨rfl, h⟩
    have := gw_r8_sum x l n hc.2
    have h2 := gw_v_cat x hc.1
    simp only [List.map_cons, List.sum_cons, h2]
    omega
theorem gw_nth_split : ∀ (l : List Value) (n : Nat) (v : Value), gw_nth l n = v → v ≠ .retAddr 0 → l = l.take n ++ v :: l.drop (n + 1) ∧ n < l.length
  | [], n, v, h, hv => absurd h.symm hv
  | w :: l, 0, v, h, hv => by
    subst h
    simp [gw_nth]
  | w :: l, n + 1, v, h, hv => by
    obtain ⟨h1, h2⟩ := gw_nth_split l n v h hv
    refine ⟨?_, by simp; exact h2⟩
    simp only [List.take_succ_cons, List.drop_succ_cons, List.cons_append]
    rw [← h1]
theorem gw_blind (x : gw_C) (av : List Value) (S : gw_S) (μ : gw_M) : FrameBlind (va_Pc av (gw_wd x S μ)) := fun a U g mk q => ⟨q.1, q.2.1, gw_kk_same (u := U) (U := U.calling g mk a) rfl q.2.2⟩
theorem gw_pre {as : List Value} {H : Heap} {locs : List Loc} (hr : gw_rep x S μ H locs) (hk : gw_kk x s) : ∀ U : State, U.heap = H → s.WarmedH U.vm → va_Pc as (gw_wd x S μ) as.toArray U := fun U hU hW => ⟨rfl, by rw [hU]; exact ⟨hr.1, hr.2.1, hr.2.2.1, hr.2.2.2.1, hr.2.2.2.2.1, fun q hq => by cases hq⟩, gw_kk_moved hW hk⟩
theorem gw_callrow {mc' ms' : Nat} {ls : Array Slot} {st0 rest : List Value} {H : Heap} {locs : List Loc} {a : Array Value} {Q' : Option Value → gw_S → gw_M → Prop} (hr : va_Run p l e R s m args below meth c H locs cc ss mc' ms' (F0 m pc ls st0) rest (gw_qc x Q' a) (gw_A x)) (hloc : ∀ q ∈ locs, x.1 < q.base)
    (kk : ∀ (r : Option Value) (S' : gw_S) (μ' : gw_M) (H1 : Heap) (locs1 : List Loc), Q' r S' μ' → gw_rep x S' μ' H1 locs1 → W p l e R s m args below meth c H1 locs1 (cc + mc') (ss + ms') Z (F0 m (pc + 3) ls ((r.map (gw_v x)).toList ++ rest))) : W p l e R s m args below meth c H locs cc ss Z (F0 m pc ls st0) := by
  intro T hT X
  obtain ⟨v, st₀, t, T', L, h0, X', hL, e1, e2, ⟨r, S', μ', hv, hq, hw⟩, st⟩ := hr T hT X
  cases hv
  obtain ⟨t2, a1, b1⟩ := kk r S' μ' T'.heap (locs ++ L) hq (by
    rw [e1]
    obtain ⟨⟨w1, w2, w3, w4, w5, w6⟩, -⟩ := hw
    exact ⟨w1, w2, w3, w4, w5, fun q hq => (List.mem_append.mp hq).elim (hloc q) (hL q)⟩) T' rfl X'
  exact ⟨t2, st t2 a1, b1⟩
theorem gw_good {g : gw_Sig} (h : Cond.code g.1 g.2.1 g.2.2.1 g.2.2.2 ∈ gw_tb) : GoodIn gw_tb (gw_wsg g) := fun w hw => by
  have hm : w ∈ gw_tb := (List.mem_cons.mp hw).elim (fun e => e ▸ h) id
  exact ⟨hm, good_of_word (gw_tb_good w hm)⟩
theorem gw_call_spec {g : gw_Sig} {n : Nat} (h : gw_call g n = true) : (g.1.cls ≠ "java/lang/invoke/MethodHandle" ∧ g.1.cls ≠ "java/lang/invoke/VarHandle" ∧ (parseMethodDescriptor g.1.desc).map (fun d => d.parameters.length) = some n) ∧ g.2.2.1 ≤ 20 := by
  simp only [gw_call, Bool.and_eq_true, decide_eq_true_eq] at h
  exact ⟨⟨h.1.1.1, h.1.1.2, h.1.2⟩, h.2⟩
theorem gw_ret_map (r : Option Value) (t : List Value) : (r.map (gw_v x)).toList ++ t.map (gw_v x) = (r.toList ++ t).map (gw_v x) := by cases r <;> rfl
theorem gw_s_invokevirtual (F : gw_fx p s m args c x nL cb own) (hRm : mc ≤ R.cells ∧ ms ≤ R.slots) (hRf : d + 1 ≤ R.frames ∧ 40 * d + 40 ≤ R.locals) (hd : decode cb pc = .ok (.invokevirtual j, 3)) (hlk : gw_lk own nL rt pc (.invokevirtual j) an iv sg = true) (h : gw_step (gw_ok l x d) x mc ms Q K (.invokevirtual j) an iv sg lv st S μ cc ss N) (hN : ∀ lv st S μ cc ss, N lv st S μ cc ss → gw_at p l e R s m args below meth c Z x nL (pc + 3) lv st S μ cc ss) (hK : ∀ t lv st S μ cc ss, K t lv st S μ cc ss → gw_at p l e R s m args below meth c Z x nL t lv st S μ cc ss) : gw_at p l e R s m args below meth c Z x nL pc lv st S μ cc ss := by
  simp only [gw_step] at h
  simp only [gw_lk] at hlk
  split at h
  · rename_i n ci rest0 g
    cases hv : gw_nth st n with
    | ref a =>
      rw [hv] at h
      obtain ⟨hka, hr8, mc', ms', hm1, hm2, hcode, hM⟩ := h
      obtain ⟨hsp, hlt⟩ := gw_nth_split st n _ hv (fun z => by cases z)
      split at hlk
      · rename_i heq1 heq2
        cases heq1
        cases heq2
        cases hq : vwCl[ci]? with
        | none => simp [hq] at hlk
        | some q =>
          simp only [hq, Bool.and_eq_true, decide_eq_true_eq] at hlk
          obtain ⟨⟨⟨⟨⟨c0, c1⟩, c2⟩, c3⟩, c4⟩, c5⟩ := hlk
          obtain ⟨cd, cl⟩ := gw_call_spec c1
          intro H locs ls hr hl
          obtain ⟨g1, g2, hc, hra⟩ := gw_kd_ok hr hka (by have := (gw_cls hq).2.2.2.2; omega)
          have hob := hc.2.2.2 q (by rw [hka]; exact hq)
          rw [hka] at hob
          obtain ⟨cell, q1, q2, q3, q4⟩ := hob
          refine gw_callrow (mc' := mc') (ms' := ms') (rest := (st.drop (n + 1)).map (gw_v x)) (va_runV (bytes := g.2.1) (maxL := g.2.2.1) (ret := g.2.2.2) (n := n) (As := ((st.take n).reverse).map (gw_v x)) (b := x.1 + a) (C := q.1) ⟨F.1, F.2.1, F.2.2.1, F.2.2.2.1, F.2.2.2.2.1⟩ hM ?_ ⟨gw_blind x _ S μ, ⟨cell, q1, by rw [q3]; rfl, ?_⟩, ?_⟩ rfl ?_ hl.1 ?_ (lv_room (gw_r8_sum x _ _ hr8)) hd ⟨by omega, by omega⟩) hr.2.2.2.2.2 ?_
          · exact ⟨callB_of n F.2.2.2.2.1 (gw_good hcode) rfl rfl rfl (by rw [c0]; exact F.2.2.2.2.1 _ (gw_is_spec c5)) (F.2.2.2.2.1 _ (gw_is_spec c2)) cd ⟨hRf.1, by show 8 + (g.2.2.1 + 11) + 40 * d ≤ R.locals; omega⟩, F.2.2.2.2.1 _ (gw_is_spec c3), F.2.2.2.2.1 _ (gw_is_spec c4)⟩
          · rw [q2]; exact (F.2.2.2.2.2.1.1 ci q hq).2.1
          · have := gw_pre (as := (gw_v x (.ref a)) :: ((st.take n).reverse).map (gw_v x)) hr F.2.2.2.2.2
            rw [hra] at this
            simpa only [List.map_cons, hra] using this
          · simp only [List.length_map, List.length_reverse, List.length_take]
            omega
          · show st.map (gw_v x) = _
            rw [← List.map_reverse, List.reverse_reverse, ← hra, ← List.map_cons, ← List.map_append, ← hsp]
          · intro r S' μ' H1 locs1 hq' hr'
            rw [gw_ret_map]
            exact hN _ _ _ _ _ _ hq' H1 locs1 ls hr' hl
      · cases hlk
    | retAddr v =>
      rw [hv] at h
      match v, h with
      | 0, h => exact h.elim
      | 1, h => exact h.elim
      | _ + 2, h => exact h.elim
    | _ => rw [hv] at h; exact h.elim
  · exact h.elim
theorem gw_st0 {n : Nat} {g : gw_Sig} (F : gw_fx p s m args c x nL cb own) (hRm : mc ≤ R.cells ∧ ms ≤ R.slots) (hRf : d + 1 ≤ R.frames ∧ 40 * d + 40 ≤ R.locals) (hd : decode cb pc = .ok (.invokestatic j, 3)) (c1 : gw_call g n = true) {t1 t2 t3 : Nat} (c2 : gw_is t1 (.methodLink own j g.1) = true) (c3 : gw_is t2 (.static g.1) = true) (c4 : gw_is t3 (.initialized g.1.cls) = true)
    (h : gw_r8 (st.drop n) 8 = true ∧ n ≤ st.length ∧ ∃ mc' ms', cc + mc' ≤ mc ∧ ss + ms' ≤ ms ∧ gw_ok l x d g mc' ms' (st.take n).reverse S μ (fun r S' μ' => N lv (r.toList ++ st.drop n) S' μ' (cc + mc') (ss + ms'))) (hN : ∀ lv st S μ cc ss, N lv st S μ cc ss → gw_at p l e R s m args below meth c Z x nL (pc + 3) lv st S μ cc ss) : gw_at p l e R s m args below meth c Z x nL pc lv st S μ cc ss := by
  obtain ⟨hr8, hlen, mc', ms', hm1, hm2, hcode, hM⟩ := h
  obtain ⟨cd, cl⟩ := gw_call_spec c1
  intro H locs ls hr hl
  refine gw_callrow (mc' := mc') (ms' := ms') (rest := (st.drop n).map (gw_v x)) (va_runS (As := ((st.take n).reverse).map (gw_v x)) ⟨F.1, F.2.1, F.2.2.1, F.2.2.2.1, F.2.2.2.2.1⟩ hM ⟨callB_of n F.2.2.2.2.1 (gw_good hcode) rfl rfl rfl (F.2.2.2.2.1 _ (gw_is_spec c4)) (F.2.2.2.2.1 _ (gw_is_spec c2)) cd ⟨hRf.1, by show 8 + (g.2.2.1 + 11) + 40 * d ≤ R.locals; omega⟩, F.2.2.2.2.1 _ (gw_is_spec c3)⟩ ⟨gw_blind x _ S μ, gw_pre hr F.2.2.2.2.2⟩ rfl ?_ hl.1 ?_ (lv_room (gw_r8_sum x _ _ hr8)) hd ⟨by omega, by omega⟩) hr.2.2.2.2.2 ?_
  · simp only [List.length_map, List.length_reverse, List.length_take]
    omega
  · show st.map (gw_v x) = _
    rw [← List.map_reverse, List.reverse_reverse, ← List.map_append, List.take_append_drop]
  · intro r S' μ' H1 locs1 hq' hr'
    rw [gw_ret_map]
    exact hN _ _ _ _ _ _ hq' H1 locs1 ls hr' hl
theorem gw_sp0 {n a : Nat} {g : gw_Sig} (F : gw_fx p s m args c x nL cb own) (hRm : mc ≤ R.cells ∧ ms ≤ R.slots) (hRf : d + 1 ≤ R.frames ∧ 40 * d + 40 ≤ R.locals) (hd : decode cb pc = .ok (.invokespecial j, 3)) (c1 : gw_call g n = true) (hnm : g.1.name = "<init>") (hrt : g.2.2.2 = none) {t1 t2 t3 : Nat} (c2 : gw_is t1 (.methodLink own j g.1) = true) (c3 : gw_is t2 (.instanceMethod g.1) = true) (c4 : gw_is t3 (.initialized g.1.cls) = true) (hv : gw_nth st n = .ref a)
    (h : ¬ a = 0 ∧ gw_r8 (st.drop (n + 1)) 8 = true ∧ ∃ mc' ms', cc + mc' ≤ mc ∧ ss + ms' ≤ ms ∧ gw_ok l x d g mc' ms' (.ref a :: (st.take n).reverse) S μ (fun r S' μ' => N lv (r.toList ++ st.drop (n + 1)) S' μ' (cc + mc') (ss + ms'))) (hN : ∀ lv st S μ cc ss, N lv st S μ cc ss → gw_at p l e R s m args below meth c Z x nL (pc + 3) lv st S μ cc ss) : gw_at p l e R s m args below meth c Z x nL pc lv st S μ cc ss := by
  obtain ⟨ha, hr8, mc', ms', hm1, hm2, hcode, hM⟩ := h
  obtain ⟨hsp, hlt⟩ := gw_nth_split st n _ hv (fun z => by cases z)
  obtain ⟨cd, cl⟩ := gw_call_spec c1
  have hra := gw_v_ref x ha
  intro H locs ls hr hl
  refine gw_callrow (mc' := mc') (ms' := ms') (rest := (st.drop (n + 1)).map (gw_v x)) (va_runI (As := ((st.take n).reverse).map (gw_v x)) (b := x.1 + a) ⟨F.1, F.2.1, F.2.2.1, F.2.2.2.1, F.2.2.2.2.1⟩ hM ⟨callB_of n F.2.2.2.2.1 (gw_good hcode) (by rw [gw_wsg, hrt]) rfl rfl (F.2.2.2.2.1 _ (gw_is_spec c4)) (F.2.2.2.2.1 _ (gw_is_spec c2)) cd ⟨hRf.1, by show 8 + (g.2.2.1 + 11) + 40 * d ≤ R.locals; omega⟩, hnm, F.2.2.2.2.1 _ (gw_is_spec c3)⟩ ⟨gw_blind x _ S μ, ?_⟩ rfl ?_ hl.1 ?_ (lv_room (gw_r8_sum x _ _ hr8)) hd ⟨by omega, by omega⟩) hr.2.2.2.2.2 ?_
  · have := gw_pre (as := (gw_v x (.ref a)) :: ((st.take n).reverse).map (gw_v x)) hr F.2.2.2.2.2
    rw [hra] at this
    simpa only [List.map_cons, hra] using this
  · simp only [List.length_map, List.length_reverse, List.length_take]
    omega
  · show st.map (gw_v x) = _
    rw [← List.map_reverse, List.reverse_reverse, ← hra, ← List.map_cons, ← List.map_append, ← hsp]
  · intro r S' μ' H1 locs1 hq' hr'
    rw [gw_ret_map]
    exact hN _ _ _ _ _ _ hq' H1 locs1 ls hr' hl
theorem gw_st1 {n : Nat} {g : gw_Sig} (F : gw_fx p s m args c x nL cb own) (hRm : mc ≤ R.cells ∧ ms ≤ R.slots) (hRf : d + 1 ≤ R.frames ∧ 40 * d + 40 ≤ R.locals) (hd : decode cb pc = .ok (.invokestatic j, 3)) (c1 : gw_call g n = true) {t1 t2 t3 : Nat} (c2 : gw_in1 t1 (.methodLinkNest own j g.1 RX10) = true) (c3 : gw_is t2 (.static g.1) = true) (c4 : gw_is t3 (.initialized g.1.cls) = true)
    (h : gw_r8 (st.drop n) 8 = true ∧ n ≤ st.length ∧ ∃ mc' ms', cc + mc' ≤ mc ∧ ss + ms' ≤ ms ∧ gw_ok l x d g mc' ms' (st.take n).reverse S μ (fun r S' μ' => N lv (r.toList ++ st.drop n) S' μ' (cc + mc') (ss + ms'))) (hN : ∀ lv st S μ cc ss, N lv st S μ cc ss → gw_at p l e R s m args below meth c Z x nL (pc + 3) lv st S μ cc ss) : gw_at p l e R s m args below meth c Z x nL pc lv st S μ cc ss := by
  obtain ⟨hr8, hlen, mc', ms', hm1, hm2, hcode, hM⟩ := h
  obtain ⟨cd, cl⟩ := gw_call_spec c1
  intro H locs ls hr hl
  refine gw_callrow (mc' := mc') (ms' := ms') (rest := (st.drop n).map (gw_v x)) (va_runSN (host := RX10) (As := ((st.take n).reverse).map (gw_v x)) ⟨F.1, F.2.1, F.2.2.1, F.2.2.2.1, F.2.2.2.2.1⟩ hM ⟨va_cnB n F.2.2.2.2.1 (gw_good hcode) rfl rfl rfl (F.2.2.2.2.2.2.2.2 _ (gw_in1_spec c2)) (F.2.2.2.2.1 _ (gw_is_spec c4)) cd ⟨hRf.1, by show 8 + (g.2.2.1 + 11) + 40 * d ≤ R.locals; omega⟩, F.2.2.2.2.1 _ (gw_is_spec c3), trivial⟩ ⟨gw_blind x _ S μ, gw_pre hr F.2.2.2.2.2⟩ rfl ?_ hl.1 ?_ (lv_room (gw_r8_sum x _ _ hr8)) hd ⟨by omega, by omega⟩) hr.2.2.2.2.2 ?_
  · simp only [List.length_map, List.length_reverse, List.length_take]
    omega
  · show st.map (gw_v x) = _
    rw [← List.map_reverse, List.reverse_reverse, ← List.map_append, List.take_append_drop]
  · intro r S' μ' H1 locs1 hq' hr'
    rw [gw_ret_map]
    exact hN _ _ _ _ _ _ hq' H1 locs1 ls hr' hl
theorem gw_sp1 {n a : Nat} {g : gw_Sig} (F : gw_fx p s m args c x nL cb own) (hRm : mc ≤ R.cells ∧ ms ≤ R.slots) (hRf : d + 1 ≤ R.frames ∧ 40 * d + 40 ≤ R.locals) (hd : decode cb pc = .ok (.invokespecial j, 3)) (c1 : gw_call g n = true) (hnm : g.1.name = "<init>") (hrt : g.2.2.2 = none) {t1 t2 t3 : Nat} (c2 : gw_in1 t1 (.methodLinkNest own j g.1 RX10) = true) (c3 : gw_is t2 (.instanceMethod g.1) = true) (c4 : gw_is t3 (.initialized g.1.cls) = true) (hv : gw_nth st n = .ref a)
    (h : ¬ a = 0 ∧ gw_r8 (st.drop (n + 1)) 8 = true ∧ ∃ mc' ms', cc + mc' ≤ mc ∧ ss + ms' ≤ ms ∧ gw_ok l x d g mc' ms' (.ref a :: (st.take n).reverse) S μ (fun r S' μ' => N lv (r.toList ++ st.drop (n + 1)) S' μ' (cc + mc') (ss + ms'))) (hN : ∀ lv st S μ cc ss, N lv st S μ cc ss → gw_at p l e R s m args below meth c Z x nL (pc + 3) lv st S μ cc ss) : gw_at p l e R s m args below meth c Z x nL pc lv st S μ cc ss := by
  obtain ⟨ha, hr8, mc', ms', hm1, hm2, hcode, hM⟩ := h
  obtain ⟨hsp, hlt⟩ := gw_nth_split st n _ hv (fun z => by cases z)
  obtain ⟨cd, cl⟩ := gw_call_spec c1
  have hra := gw_v_ref x ha
  intro H locs ls hr hl
  refine gw_callrow (mc' := mc') (ms' := ms') (rest := (st.drop (n + 1)).map (gw_v x)) (va_runIN (host := RX10) (As := ((st.take n).reverse).map (gw_v x)) (b := x.1 + a) ⟨F.1, F.2.1, F.2.2.1, F.2.2.2.1, F.2.2.2.2.1⟩ hM ⟨va_cnB n F.2.2.2.2.1 (gw_good hcode) (by rw [gw_wsg, hrt]) rfl rfl (F.2.2.2.2.2.2.2.2 _ (gw_in1_spec c2)) (F.2.2.2.2.1 _ (gw_is_spec c4)) cd ⟨hRf.1, by show 8 + (g.2.2.1 + 11) + 40 * d ≤ R.locals; omega⟩, hnm, F.2.2.2.2.1 _ (gw_is_spec c3)⟩ ⟨gw_blind x _ S μ, ?_⟩ rfl ?_ hl.1 ?_ (lv_room (gw_r8_sum x _ _ hr8)) hd ⟨by omega, by omega⟩) hr.2.2.2.2.2 ?_
  · have := gw_pre (as := (gw_v x (.ref a)) :: ((st.take n).reverse).map (gw_v x)) hr F.2.2.2.2.2
    rw [hra] at this
    simpa only [List.map_cons, hra] using this
  · simp only [List.length_map, List.length_reverse, List.length_take]
    omega
  · show st.map (gw_v x) = _
    rw [← List.map_reverse, List.reverse_reverse, ← hra, ← List.map_cons, ← List.map_append, ← hsp]
  · intro r S' μ' H1 locs1 hq' hr'
    rw [gw_ret_map]
    exact hN _ _ _ _ _ _ hq' H1 locs1 ls hr' hl
end SND5
