/-! ===== soundness: fields, arrays, new cells ===== -/
section SND3
variable {p : Program} {l : Launch} {e : Env} {R : Room} {s : State} {m : MethodId} {args : Array Value} {below : List Frame} {meth : Method} {c : Code} {Z : State → Prop} {x : gw_C} {nL : Nat} {cb : ByteArray} {own : String}
variable {ok : gw_Ok} {mc ms pc : Nat} {Q : Option Value → gw_S → gw_M → Prop} {K : Nat → gw_Kt} {an : List Nat} {iv : List Int32} {sg : List gw_Sig} {lv st : List Value} {S : gw_S} {μ : gw_M} {cc ss : Nat} {N : gw_Kt} {rt : Option FieldType} {j : Nat}
theorem gw_s_putfield (F : gw_fx p s m args c x nL cb own) (hin0 : meth.name = "<init>" ∨ ¬ 1 = (an.getD 2 0)) (hd : decode cb pc = .ok (.putfield j, 3)) (hlk : gw_lk own nL rt pc (.putfield j) an iv sg = true) (h : gw_step ok x mc ms Q K (.putfield j) an iv sg lv st S μ cc ss N) (hN : ∀ lv st S μ cc ss, N lv st S μ cc ss → gw_at p l e R s m args below meth c Z x nL (pc + 3) lv st S μ cc ss) (hK : ∀ t lv st S μ cc ss, K t lv st S μ cc ss → gw_at p l e R s m args below meth c Z x nL t lv st S μ cc ss) : gw_at p l e R s m args below meth c Z x nL pc lv st S μ cc ss := by
  simp only [gw_step] at h
  simp only [gw_lk] at hlk
  have fld : ∀ (ci k a : Nat) (S' : gw_S) (μ' : gw_M) (v : Value), S'.2 = S.2 → (∀ k', k' ≠ k → gw_fld x S' μ' a ci k' = gw_fld x S μ a ci k') → gw_fld x S' μ' a ci k = v → ∀ j', updV (gw_fld x S μ a ci) k v j' = gw_fld x S' μ' a ci j' := by
    intro ci k a S' μ' v _ h1 h2 j'
    by_cases hj : j' = k
    · subst hj
      simp [updV, h2]
    · simp [updV, hj, h1 j' hj]
  have cellOf : ∀ (ci k a : Nat) (q : vw_C) (S' : gw_S) (μ' : gw_M) (v : Value) (H1 : Heap) (cell : Cell), vwCl[ci]? = some q → gw_kd S a = ci → k < q.2.2 → S'.2 = S.2 → (∀ k', k' ≠ k → gw_fld x S' μ' a ci k' = gw_fld x S μ a ci k') → gw_fld x S' μ' a ci k = v → cell.cls = x.2.2.1.1 ci → cell.vm = .none → (∀ k', k' < q.2.2 → cell.slots[x.2.2.1.2 ci k']? = some (gw_fld x S μ a ci k')) → H1[x.1 + a]? = some (cell.setSlot (x.2.2.1.2 ci k) v) → gw_cell x S' μ' a H1 := by
    intro ci k a q S' μ' v H1 cell hq hka hk hS2 hf1 hf2 c1 c2 c3 e1
    have hkd' : gw_kd S' a = ci := by rw [← hka]; simp only [gw_kd, hS2]
    have hci := (gw_cls hq).2.2.2.2
    refine ⟨fun z => by omega, fun z => by omega, fun z => by omega, fun q' hq' => ?_⟩
    rw [hkd'] at hq' ⊢
    cases hq.symm.trans hq'
    have hap := va_apart (own := own) F.2.2.2.2.1 (gw_cls hq).1 (gw_ty ci) (gw_cls hq).2.1 (gw_cls hq).2.2.1 F.2.2.2.2.2.1 hq
    exact t_OB.to (V := updV (gw_fld x S μ a ci) k v) ⟨_, e1, c1, c2, t_set c3 hap hk v⟩ (fun j' _ => fld ci k a S' μ' v hS2 hf1 hf2 j')
  split at h
  · rename_i ci k ti r a t
    obtain ⟨hka, hr0, hn⟩ := h
    cases hq : vwCl[ci]? with
    | none => simp [hq] at hlk
    | some q =>
      simp only [hq, Bool.and_eq_true, decide_eq_true_eq] at hlk
      obtain ⟨⟨⟨⟨hk, hft⟩, hfin⟩, hown⟩, hli⟩ := hlk
      intro H locs ls hr hl
      obtain ⟨h1, h2, hc, hra⟩ := gw_kd_ok hr hka (by have := (gw_cls hq).2.2.2.2; omega)
      have hob := hc.2.2.2 q (by rw [hka]; exact hq)
      rw [hka] at hob
      obtain ⟨cell, q1, q2, q3, q4⟩ := hob
      obtain ⟨hS, hfc, kC, hkC, hkind⟩ := F.2.2.2.2.2.1.1 ci q hq
      obtain ⟨cf, kf, fi, f, hi, hsl⟩ := hS k hk
      have hst := (u_facts hfc hkC (u_lays F.2.2.2.2.1 (gw_cls hq).1 hk) hi).1
      have hlay := F.2.2.2.2.1 _ ((gw_cls hq).1 _ (u_in_lay hk))
      unfold u_lay at hlay
      rw [if_pos (by simpa using hfin)] at hlay
      have hcf : m.cls = cf := by
        obtain ⟨_, _, c', _, _, _, -, -, hf', -, -, -, hown2, -⟩ := Cond.laysFinal_spec hlay
        have e1 : c' = cf := by have := hi.symm.trans hf'; simp at this; exact this.1.symm
        rw [hown trivial] at hown2
        rw [← e1]; exact Option.some.inj (F.2.2.2.1.symm.trans hown2)
      have hty : gw_ty ci k = .int ∨ gw_ty ci k = .boolean ∨ ∀ b, narrow (gw_ty ci k) (.ref b) = .ref b ∧ (fits (gw_ty ci k) (.ref b) = true ∨ True) := by
        right; right
        intro b
        cases gw_ty ci k <;> exact ⟨rfl, Or.inr trivial⟩
      have h6 : narrow f.type (Value.ref (x.1 + r)) = Value.ref (x.1 + r) ∧ s.fitsSlot cell.cls .none f.slot (Value.ref (x.1 + r)) = true := by
        rw [q2]
        refine u_fits hfc hkC hkind (Or.inr hlay) hi ((gw_cls hq).2.1 k hk) ?_ ?_
        · cases gw_ty ci k <;> rfl
        · have hfr : ∀ (ci k : Nat), ci < 12 → k < gw_nf ci → gw_ft (gw_ty ci k) = 1 → (∃ n, gw_ty ci k = .object n) ∨ ∃ t, gw_ty ci k = .array t := by
            intro ci k hci hk hf
            have hall : ∀ ci, ci < 12 → ∀ k, k < 15 → k < gw_nf ci → gw_ft (gw_ty ci k) = 1 → (match gw_ty ci k with | .object _ => true | .array _ => true | _ => false) = true := by decide +kernel
            have hn15 : ∀ ci, ci < 12 → gw_nf ci ≤ 15 := by decide
            have := hall ci hci k (by have := hn15 ci hci; omega) hk hf
            cases hgt : gw_ty ci k with
            | object n => exact Or.inl ⟨n, rfl⟩
            | array t => exact Or.inr ⟨t, rfl⟩
            | _ => rw [hgt] at this; cases this
          rcases hfr ci k (gw_cls hq).2.2.2.2 (by rw [← (gw_cls hq).2.2.2.1]; exact hk) hft.symm with ⟨n, hn⟩ | ⟨n, hn⟩ <;> rw [hn] <;> rfl
      have hin1 : meth.name = "<init>" := by
        rcases hin0 with z | z
        · exact z
        · exact absurd rfl z
      show W p l e R s m args below meth c H locs cc ss Z (F0 m pc ls (gw_v x (.ref r) :: gw_v x (.ref a) :: t.map (gw_v x)))
      rw [hra, gw_v_ref x hr0]
      refine W.putFinK F.1 F.2.1 F.2.2.2.1 (F.2.2.2.2.1 _ (gw_is_spec hli)) hi hst hcf hin1 h6 q1 q3 (by rw [hsl]; exact k2_hasslot (q4 k hk)) rfl rfl hd (fun H1 e1 z1 o1 => ?_)
      rw [hsl] at e1
      refine hN _ _ _ _ _ _ hn H1 _ ls (gw_rep_store hr z1 o1 h1 rfl (fun b hb jj => gw_sr_ne hb jj) (fun _ _ _ => rfl) ?_ (fun q hq => gw_locs hq)) hl
      refine cellOf ci k a q _ _ (.ref (x.1 + r)) H1 cell hq hka hk rfl (fun k' hk' => ?_) ?_ q2 q3 q4 e1
      · simp [gw_fld, gw_rf, gw_sr, hk']
      · rw [gw_fld, if_pos hft.symm]
        simp only [gw_rf, gw_sr, and_self, if_true]
        exact gw_v_ref x hr0
  · rename_i ci k ti v a t
    obtain ⟨hka, hv01, hn⟩ := h
    cases hq : vwCl[ci]? with
    | none => simp [hq] at hlk
    | some q =>
      simp only [hq, Bool.and_eq_true, decide_eq_true_eq] at hlk
      obtain ⟨⟨⟨⟨hk, hft⟩, hfin⟩, hown⟩, hli⟩ := hlk
      intro H locs ls hr hl
      obtain ⟨h1, h2, hc, hra⟩ := gw_kd_ok hr hka (by have := (gw_cls hq).2.2.2.2; omega)
      have hob := hc.2.2.2 q (by rw [hka]; exact hq)
      rw [hka] at hob
      obtain ⟨cell, q1, q2, q3, q4⟩ := hob
      obtain ⟨hS, hfc, kC, hkC, hkind⟩ := F.2.2.2.2.2.1.1 ci q hq
      obtain ⟨cf, kf, fi, f, hi, hsl⟩ := hS k hk
      have hst := (u_facts hfc hkC (u_lays F.2.2.2.2.1 (gw_cls hq).1 hk) hi).1
      have hlay := F.2.2.2.2.1 _ ((gw_cls hq).1 _ (u_in_lay hk))
      unfold u_lay at hlay
      rw [if_neg (by simp at hfin; simp [hfin])] at hlay
      have hgt : gw_ty ci k = .boolean := by
        cases hz : gw_ty ci k <;> rw [hz] at hft <;> first | rfl | (simp [gw_ft] at hft)
      have h6 : k2_Sd s f cell.cls (Value.int v) := by
        rw [q2]
        refine u_store hfc hkC hkind hlay hi ((gw_cls hq).2.1 k hk) ?_ ?_
        · rw [hgt]; rcases hv01 with rfl | rfl <;> rfl
        · rw [hgt]; rcases hv01 with rfl | rfl <;> rfl
      show W p l e R s m args below meth c H locs cc ss Z (F0 m pc ls (.int v :: gw_v x (.ref a) :: t.map (gw_v x)))
      rw [hra]
      refine W.putK F.1 F.2.1 (f := f) ⟨F.2.2.2.1, F.2.2.2.2.1 _ (gw_is_spec hli), ⟨_, _, _, hi⟩, hst⟩ h6 q1 q3 (by rw [hsl]; exact k2_hasslot (q4 k hk)) rfl rfl hd (fun H1 e1 z1 o1 => ?_)
      rw [hsl] at e1
      refine hN _ _ _ _ _ _ hn H1 _ ls (gw_rep_store hr z1 o1 h1 rfl (fun _ _ _ => rfl) (fun b hb jj => gw_up_ne hb jj) ?_ (fun q hq => gw_locs hq)) hl
      refine cellOf ci k a q _ _ (.int v) H1 cell hq hka hk rfl (fun k' hk' => ?_) ?_ q2 q3 q4 e1
      · simp [gw_fld, gw_up, hk']
      · rw [gw_fld, if_neg (by rw [← hft]; decide)]
        simp [gw_up]
  · rename_i ci k ti v a t
    obtain ⟨hka, hn⟩ := h
    cases hq : vwCl[ci]? with
    | none => simp [hq] at hlk
    | some q =>
      simp only [hq, Bool.and_eq_true, decide_eq_true_eq] at hlk
      obtain ⟨⟨⟨⟨hk, hft⟩, hfin⟩, hown⟩, hli⟩ := hlk
      intro H locs ls hr hl
      obtain ⟨h1, h2, hc, hra⟩ := gw_kd_ok hr hka (by have := (gw_cls hq).2.2.2.2; omega)
      have hob := hc.2.2.2 q (by rw [hka]; exact hq)
      rw [hka] at hob
      obtain ⟨cell, q1, q2, q3, q4⟩ := hob
      obtain ⟨hS, hfc, kC, hkC, hkind⟩ := F.2.2.2.2.2.1.1 ci q hq
      obtain ⟨cf, kf, fi, f, hi, hsl⟩ := hS k hk
      have hst := (u_facts hfc hkC (u_lays F.2.2.2.2.1 (gw_cls hq).1 hk) hi).1
      have hlay := F.2.2.2.2.1 _ ((gw_cls hq).1 _ (u_in_lay hk))
      unfold u_lay at hlay
      rw [if_neg (by simp at hfin; simp [hfin])] at hlay
      have hgt : gw_ty ci k = .int := by
        cases hz : gw_ty ci k <;> rw [hz] at hft <;> first | rfl | (simp [gw_ft] at hft)
      have h6 : k2_Sd s f cell.cls (Value.int v) := by
        rw [q2]
        refine u_store hfc hkC hkind hlay hi ((gw_cls hq).2.1 k hk) ?_ ?_
        · rw [hgt]; rfl
        · rw [hgt]; rfl
      show W p l e R s m args below meth c H locs cc ss Z (F0 m pc ls (.int v :: gw_v x (.ref a) :: t.map (gw_v x)))
      rw [hra]
      refine W.putK F.1 F.2.1 (f := f) ⟨F.2.2.2.1, F.2.2.2.2.1 _ (gw_is_spec hli), ⟨_, _, _, hi⟩, hst⟩ h6 q1 q3 (by rw [hsl]; exact k2_hasslot (q4 k hk)) rfl rfl hd (fun H1 e1 z1 o1 => ?_)
      rw [hsl] at e1
      refine hN _ _ _ _ _ _ hn H1 _ ls (gw_rep_store hr z1 o1 h1 rfl (fun _ _ _ => rfl) (fun b hb jj => gw_up_ne hb jj) ?_ (fun q hq => gw_locs hq)) hl
      refine cellOf ci k a q _ _ (.int v) H1 cell hq hka hk rfl (fun k' hk' => ?_) ?_ q2 q3 q4 e1
      · simp [gw_fld, gw_up, hk']
      · rw [gw_fld, if_neg (by rw [← hft]; decide)]
        simp [gw_up]
  · exact h.elim
end SND3
