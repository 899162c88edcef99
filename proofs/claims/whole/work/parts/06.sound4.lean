/-! ===== soundness: fields, arrays, new cells ===== -/
section SND4
variable {p : Program} {l : Launch} {e : Env} {R : Room} {s : State} {m : MethodId} {args : Array Value} {below : List Frame} {meth : Method} {c : Code} {Z : State → Prop} {x : gw_C} {nL : Nat} {cb : ByteArray} {own : String}
variable {ok : gw_Ok} {mc ms pc : Nat} {Q : Option Value → gw_S → gw_M → Prop} {K : Nat → gw_Kt} {an : List Nat} {iv : List Int32} {sg : List gw_Sig} {lv st : List Value} {S : gw_S} {μ : gw_M} {cc ss : Nat} {N : gw_Kt} {rt : Option FieldType} {j : Nat}
variable {aty : ArrayType}
theorem gw_s_newarray (F : gw_fx p s m args c x nL cb own) (hRm : mc ≤ R.cells ∧ ms ≤ R.slots) (hac : (Cond.arrayClass .int).before args s = true) (hd : decode cb pc = .ok (.newarray aty, 2)) (hlk : gw_lk own nL rt pc (.newarray aty) an iv sg = true) (h : gw_step ok x mc ms Q K (.newarray aty) an iv sg lv st S μ cc ss N) (hN : ∀ lv st S μ cc ss, N lv st S μ cc ss → gw_at p l e R s m args below meth c Z x nL (pc + 2) lv st S μ cc ss) (hK : ∀ t lv st S μ cc ss, K t lv st S μ cc ss → gw_at p l e R s m args below meth c Z x nL t lv st S μ cc ss) : gw_at p l e R s m args below meth c Z x nL pc lv st S μ cc ss := by
  simp only [gw_step] at h
  simp only [gw_lk, decide_eq_true_eq] at hlk
  subst hlk
  split at h
  · rename_i n t
    obtain ⟨hin, h1, h2, hn⟩ := h
    intro H locs ls hr hl
    refine va_newaK F.1 F.2.1 (atype := .int) hac rfl hd rfl (Int32.not_lt.mpr hin.1) rfl ?_ (by omega) (by omega) (h := x.1 + (gw_nn S + 1)) (by rw [hr.2.2.1]; omega) (fun H1 cA e1 z1 o1 hAr hNm => ?_)
    · have : componentBytes (newarray.typeOf .int) = 4 := rfl
      rw [this]
      have := hin.2
      omega
    · have hcA : cA = x.2.2.2.1 := by
        have := (F.2.2.2.2.2.1.2 0 _ rfl).2
        exact Option.some.inj (hNm.symm.trans this)
      subst hcA
      refine hN _ _ _ _ _ _ hn H1 locs ls (gw_rep_new hr (by rw [z1, hr.2.2.1]; omega) (fun q hq => o1 q (by rw [hr.2.2.1] at hq; omega)) ?_) hl
      have hk : gw_kd (gw_new S 12 n.toNatClampNeg) (gw_nn S + 1) = 12 := by simp [gw_kd, gw_new, gw_nn]
      refine ⟨fun _ => ?_, fun z => by omega, fun z => by omega, fun q hq => ?_⟩
      · rw [e1]
        have e2 : gw_ln (gw_new S 12 n.toNatClampNeg) (gw_nn S + 1) = n.toNatClampNeg := by simp [gw_ln, gw_new, gw_nn]
        rw [e2]
        congr 2
        funext jj
        simp [gw_row]
        rfl
      · rw [hk] at hq
        have := (gw_cls hq).2.2.2.2
        omega
  · exact h.elim
theorem gw_s_anewarray (F : gw_fx p s m args c x nL cb own) (hRm : mc ≤ R.cells ∧ ms ≤ R.slots) (hd : decode cb pc = .ok (.anewarray j, 3)) (hlk : gw_lk own nL rt pc (.anewarray j) an iv sg = true) (h : gw_step ok x mc ms Q K (.anewarray j) an iv sg lv st S μ cc ss N) (hN : ∀ lv st S μ cc ss, N lv st S μ cc ss → gw_at p l e R s m args below meth c Z x nL (pc + 3) lv st S μ cc ss) (hK : ∀ t lv st S μ cc ss, K t lv st S μ cc ss → gw_at p l e R s m args below meth c Z x nL t lv st S μ cc ss) : gw_at p l e R s m args below meth c Z x nL pc lv st S μ cc ss := by
  simp only [gw_step] at h
  simp only [gw_lk] at hlk
  have key : ∀ (C : String) (kd t1 : Nat) (cA' : ClassId) (n : Int32) (t : List Value), an.head? = some kd → (Cond.classLink own j C) ∈ gw_tb → (Cond.arrayOver (.object C)) ∈ gw_nest → va_RA s cA' (.object C) → (kd = 13 ∧ cA' = x.2.2.2.2.1 ∨ kd = 14 ∧ cA' = x.2.2.2.2.2.1) → gw_in n 100000 → cc + 1 ≤ mc → ss + n.toNatClampNeg ≤ ms → N lv (.ref (gw_nn S + 1) :: t) (gw_new S kd n.toNatClampNeg) (gw_row μ (gw_nn S + 1) (fun _ => 0)) (cc + 1) (ss + n.toNatClampNeg) → gw_at p l e R s m args below meth c Z x nL pc lv (.int n :: t) S μ cc ss := by
    intro C kd t1 cA' n t han hc1 hc2 hRA hkd hin h1 h2 hn H locs ls hr hl
    refine W.anew F.1 F.2.1 F.2.2.2.1 (F.2.2.2.2.1 _ hc1) (va_AO.use (F.2.2.2.2.2.2.2.2 _ hc2)) rfl hd rfl (Int32.not_lt.mpr hin.1) (by have := hin.2; omega) (by omega) (by omega) (fun cA kA comp f1 f2 f3 f4 => ?_)
    have hcA : cA = cA' := by
      obtain ⟨kA', comp', -, -, -, g4⟩ := hRA
      exact Option.some.inj (f1.symm.trans g4)
    subst hcA
    generalize hH1 : H.push ({ cls := cA, slots := Array.replicate n.toNatClampNeg .null, vm := .none } : Cell) = H1
    have z1 : H1.size = H.size + 1 := by rw [← hH1, Array.size_push]
    have e1 : H1[H.size]? = some (arrV cA n.toNatClampNeg (fun _ => .null)) := by rw [← hH1, Array.getElem?_push_size, ← arrV_new]
    have o1 : ∀ q : Nat, q < H.size → H1[q]? = H[q]? := fun q hq => by rw [← hH1, Array.getElem?_push, if_neg (Nat.ne_of_lt hq)]
    have eH : H.size = x.1 + (gw_nn S + 1) := by rw [hr.2.2.1]; omega
    rw [eH] at e1 ⊢
    refine hN _ _ _ _ _ _ hn H1 locs ls (gw_rep_new hr z1 o1 ?_) hl
    have hk : gw_kd (gw_new S kd n.toNatClampNeg) (gw_nn S + 1) = kd := by simp [gw_kd, gw_new, gw_nn]
    have e2 : gw_ln (gw_new S kd n.toNatClampNeg) (gw_nn S + 1) = n.toNatClampNeg := by simp [gw_ln, gw_new, gw_nn]
    have e3 : (fun jj => gw_v x (.ref (gw_rf (gw_new S kd n.toNatClampNeg) (gw_nn S + 1) jj))) = fun _ => .null := by
      funext jj
      simp [gw_rf, gw_new, gw_nn, gw_v]
    refine ⟨fun z => by omega, fun z => ?_, fun z => ?_, fun q hq => ?_⟩
    · rw [e1, e2, e3]
      rcases hkd with ⟨_, rfl⟩ | ⟨q, _⟩
      · rfl
      · omega
    · rw [e1, e2, e3]
      rcases hkd with ⟨q, _⟩ | ⟨_, rfl⟩
      · omega
      · rfl
    · rw [hk] at hq
      have := (gw_cls hq).2.2.2.2
      omega
  split at h
  · rename_i kd rest n t
    obtain ⟨hin, h1, h2, hn⟩ := h
    split at hlk
    · rename_i heq
      cases heq
      simp only [Bool.or_eq_true, Bool.and_eq_true, decide_eq_true_eq] at hlk
      rcases hlk with ⟨⟨rfl, c1⟩, c2⟩ | ⟨⟨rfl, c1⟩, c2⟩
      · exact key RX1 13 0 _ n t rfl (gw_is_spec c1) (gw_in1_spec c2) (F.2.2.2.2.2.1.2 1 _ rfl).2 (Or.inl ⟨rfl, rfl⟩) hin h1 h2 hn
      · exact key RX3 14 0 _ n t rfl (gw_is_spec c1) (gw_in1_spec c2) (F.2.2.2.2.2.1.2 2 _ rfl).2 (Or.inr ⟨rfl, rfl⟩) hin h1 h2 hn
    · cases hlk
  · exact h.elim
theorem gw_dflt : ∀ ci, ci < 12 → ∀ k, k < 15 → k < gw_nf ci → defaultValue (gw_ty ci k) = if gw_ft (gw_ty ci k) = 1 then .null else .int 0 := by decide +kernel
theorem gw_nf15 : ∀ ci, ci < 12 → gw_nf ci ≤ 15 := by decide
theorem gw_s_new (F : gw_fx p s m args c x nL cb own) (hRm : mc ≤ R.cells ∧ ms ≤ R.slots) (hd : decode cb pc = .ok (.new j, 3)) (hlk : gw_lk own nL rt pc (.new j) an iv sg = true) (h : gw_step ok x mc ms Q K (.new j) an iv sg lv st S μ cc ss N) (hN : ∀ lv st S μ cc ss, N lv st S μ cc ss → gw_at p l e R s m args below meth c Z x nL (pc + 3) lv st S μ cc ss) (hK : ∀ t lv st S μ cc ss, K t lv st S μ cc ss → gw_at p l e R s m args below meth c Z x nL t lv st S μ cc ss) : gw_at p l e R s m args below meth c Z x nL pc lv st S μ cc ss := by
  simp only [gw_step] at h
  simp only [gw_lk] at hlk
  split at h
  · rename_i ci rest
    obtain ⟨h1, h2, hn⟩ := h
    split at hlk
    · rename_i heq
      cases heq
      cases hq : vwCl[ci]? with
      | none => simp [hq] at hlk
      | some q =>
        simp only [hq, Bool.and_eq_true] at hlk
        obtain ⟨⟨c1, c2⟩, c3⟩ := hlk
        intro H locs ls hr hl
        have hKn := F.2.2.2.2.2.1.1 ci q hq
        have hnf := (gw_cls hq).2.2.2.1
        have hci := (gw_cls hq).2.2.2.2
        refine W.widen (k := cc) (n := ss) (Nat.le_refl _) (Nat.le_refl _) ?_
        refine W.newcK F.1 F.2.1 F.2.2.2.1 (F.2.2.2.2.1 _ (gw_is_spec c1)) (F.2.2.2.2.1 _ (gw_is_spec c2)) (F.2.2.2.2.1 _ (gw_is_spec c3)) rfl hd (by omega) (by rw [hnf]; omega) hKn.2.1 (h := x.1 + (gw_nn S + 1)) (by rw [hr.2.2.1]; omega) (fun H1 kC hkC e1 z1 o1 => ?_)
        rw [hnf]
        refine hN _ _ _ _ _ _ hn H1 locs ls (gw_rep_new hr (by rw [z1, hr.2.2.1]; omega) (fun q hq => o1 q (by rw [hr.2.2.1] at hq; omega)) ?_) hl
        have hk : gw_kd (gw_new S ci 0) (gw_nn S + 1) = ci := by simp [gw_kd, gw_new, gw_nn]
        refine ⟨fun z => by omega, fun z => by omega, fun z => by omega, fun q' hq' => ?_⟩
        rw [hk] at hq' ⊢
        cases hq.symm.trans hq'
        refine (u_born (gw_ty ci) F.2.2.2.2.1 (gw_cls hq).1 hKn hkC e1 (gw_cls hq).2.1).to (fun k hk => ?_)
        rw [gw_dflt ci hci k (by have := gw_nf15 ci hci; omega) (by omega)]
        simp only [gw_fld]
        split
        · simp [gw_rf, gw_new, gw_nn, gw_v]
        · simp [gw_row]
    · cases hlk
  · exact h.elim
end SND4
