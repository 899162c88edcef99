/-! ===== soundness: fields, arrays, new cells ===== -/
section SND2
variable {p : Program} {l : Launch} {e : Env} {R : Room} {s : State} {m : MethodId} {args : Array Value} {below : List Frame} {meth : Method} {c : Code} {Z : State → Prop} {x : gw_C} {nL : Nat} {cb : ByteArray} {own : String}
variable {ok : gw_Ok} {mc ms pc : Nat} {Q : Option Value → gw_S → gw_M → Prop} {K : Nat → gw_Kt} {an : List Nat} {iv : List Int32} {sg : List gw_Sig} {lv st : List Value} {S : gw_S} {μ : gw_M} {cc ss : Nat} {N : gw_Kt} {rt : Option FieldType} {j : Nat}
theorem gw_sw_at {K : Nat → Prop} {d : Nat} : ∀ (ts : List Nat) (lo v : Int32) (n : Nat), gw_sw K d ts lo v → -1000 < lo.toInt → lo.toInt + ts.length < 1000 → ts.length = n →
    (∀ (i t : Nat), ts[i]? = some t → v.toInt = lo.toInt + (i : Int) → K t) ∧ (v.toInt < lo.toInt ∨ lo.toInt + ts.length ≤ v.toInt → K d)
  | [], lo, v, n, h, h1, h2, h3 => ⟨fun i t q => by simp at q, fun _ => h⟩
  | t :: ts, lo, v, n, h, h1, h2, h3 => by
    have e1 : (lo + 1).toInt = lo.toInt + 1 := by
      rw [Int32.toInt_add]
      have : (1 : Int32).toInt = 1 := rfl
      rw [this]
      simp only [List.length_cons] at h2
      exact Int.bmod_eq_of_le (by omega) (by omega)
    by_cases hv : v = lo
    · subst hv
      refine ⟨fun i t' q hi => ?_, fun q => ?_⟩
      · have : i = 0 := by omega
        subst this
        cases q
        exact h.1 rfl
      · simp only [List.length_cons] at q
        omega
    · have ih := gw_sw_at ts (lo + 1) v ts.length (h.2 hv) (by omega) (by rw [e1]; simp only [List.length_cons] at h2; omega) rfl
      have hne : v.toInt ≠ lo.toInt := fun q => hv (Int32.toInt_inj.mp q)
      refine ⟨fun i t' q hi => ?_, fun q => ih.2 ?_⟩
      · cases i with
        | zero => omega
        | succ i => exact ih.1 i t' (by simpa using q) (by rw [e1, hi]; omega)
      · rw [e1]
        simp only [List.length_cons] at q
        omega
variable {dflt lo hi : Int} {offs : Array Int} {len : Nat}
theorem gw_s_tableswitch (F : gw_fx p s m args c x nL cb own) (hd : decode cb pc = .ok (.tableswitch dflt lo hi offs, len)) (hlk : gw_lk own nL rt pc (.tableswitch dflt lo hi offs) an iv sg = true) (h : gw_step ok x mc ms Q K (.tableswitch dflt lo hi offs) an iv sg lv st S μ cc ss N) (hN : ∀ lv st S μ cc ss, N lv st S μ cc ss → gw_at p l e R s m args below meth c Z x nL (pc + len) lv st S μ cc ss) (hK : ∀ t lv st S μ cc ss, K t lv st S μ cc ss → gw_at p l e R s m args below meth c Z x nL t lv st S μ cc ss) : gw_at p l e R s m args below meth c Z x nL pc lv st S μ cc ss := by
  simp only [gw_step] at h
  simp only [gw_lk] at hlk
  split at h
  · rename_i d ts w a t
    simp only [Bool.and_eq_true, decide_eq_true_eq] at hlk
    obtain ⟨⟨⟨⟨⟨h1, h2⟩, h3⟩, h4⟩, h5⟩, h6⟩ := hlk
    intro H locs ls hr hl
    obtain ⟨g1, g2⟩ := gw_sw_at ts w a ts.length h (by omega) (by omega) rfl
    by_cases hin : a.toInt < lo ∨ hi < a.toInt
    · refine lv_tableOut F.1 F.2.1 hd hin h1 (hK _ _ _ _ _ _ _ (g2 (by omega)) H locs ls hr hl)
    · have hlt : (a.toInt - lo).toNat < ts.length := by omega
      have ht : ts[(a.toInt - lo).toNat]? = some ts[(a.toInt - lo).toNat] := List.getElem?_eq_getElem hlt
      have e1 : (offs.toList.map (fun o => (pc : Int) + o))[(a.toInt - lo).toNat]? = some ((ts[(a.toInt - lo).toNat] : Nat) : Int) := by
        rw [h3, List.getElem?_map, ht]; rfl
      rw [List.getElem?_map] at e1
      cases ho : offs.toList[(a.toInt - lo).toNat]? with
      | none => rw [ho] at e1; cases e1
      | some off =>
        rw [ho] at e1
        simp only [Option.map_some, Option.some.injEq] at e1
        exact lv_tableIn F.1 F.2.1 hd (by omega) (by omega) (by rw [← Array.getElem?_toList]; exact ho) e1 (hK _ _ _ _ _ _ _ (g1 _ _ ht (by omega)) H locs ls hr hl)
  · exact h.elim
theorem gw_s_getfield (F : gw_fx p s m args c x nL cb own) (hd : decode cb pc = .ok (.getfield j, 3)) (hlk : gw_lk own nL rt pc (.getfield j) an iv sg = true) (h : gw_step ok x mc ms Q K (.getfield j) an iv sg lv st S μ cc ss N) (hN : ∀ lv st S μ cc ss, N lv st S μ cc ss → gw_at p l e R s m args below meth c Z x nL (pc + 3) lv st S μ cc ss) (hK : ∀ t lv st S μ cc ss, K t lv st S μ cc ss → gw_at p l e R s m args below meth c Z x nL t lv st S μ cc ss) : gw_at p l e R s m args below meth c Z x nL pc lv st S μ cc ss := by
  simp only [gw_step] at h
  simp only [gw_lk] at hlk
  have key : ∀ (ci k t0 ti : Nat) (v : Value) (a : Nat) (t : List Value), an = [ci, k, t0, ti] → gw_kd S a = ci → gw_fld x S μ a ci k = gw_v x v → N lv (v :: t) S μ cc ss → gw_at p l e R s m args below meth c Z x nL pc lv (.ref a :: t) S μ cc ss := by
    intro ci k t0 ti v a t han hka hv hn H locs ls hr hl
    subst han
    cases hq : vwCl[ci]? with
    | none => simp [hq] at hlk
    | some q =>
      simp only [hq, Bool.and_eq_true, decide_eq_true_eq] at hlk
      obtain ⟨⟨hk, -⟩, hli⟩ := hlk
      obtain ⟨h1, h2, hc, hra⟩ := gw_kd_ok hr hka (by have := (gw_cls hq).2.2.2.2; omega)
      have hob := hc.2.2.2 q (by rw [hka]; exact hq)
      rw [hka] at hob
      obtain ⟨cell, q1, q2, q3, q4⟩ := hob
      have hKn := F.2.2.2.2.2.1.1 ci q hq
      obtain ⟨hS, hfc, kC, hkC, hkind⟩ := hKn
      obtain ⟨cf, kf, fi, f, hi, hsl⟩ := hS k hk
      have hst := (u_facts hfc hkC (u_lays F.2.2.2.2.1 (gw_cls hq).1 hk) hi).1
      show W p l e R s m args below meth c H locs cc ss Z (F0 m pc ls (gw_v x (.ref a) :: t.map (gw_v x)))
      rw [hra]
      refine W.getf F.1 F.2.1 F.2.2.2.1 (F.2.2.2.2.1 _ (gw_is_spec hli)) hi hst q1 (by rw [q3]; exact fun z => by cases z) (v := gw_v x v) ?_ rfl rfl hd (hN _ _ _ _ _ _ hn H locs ls hr hl)
      rw [hsl, q4 k hk, hv]
  have ftv : ∀ (ci k t0 ti : Nat), an = [ci, k, t0, ti] → t0 = gw_ft (gw_ty ci k) := by
    intro ci k t0 ti han
    subst han
    cases hq : vwCl[ci]? with
    | none => simp [hq] at hlk
    | some q =>
      simp only [hq, Bool.and_eq_true, decide_eq_true_eq] at hlk
      exact hlk.1.2
  split at h
  · rename_i ci k ti a t
    exact key ci k 1 ti _ a t rfl h.1 (by rw [gw_fld, if_pos (ftv ci k 1 ti rfl).symm]) h.2
  · rename_i ci k t0 ti a t hne
    refine key ci k t0 ti _ a t rfl h.1 ?_ h.2
    rw [gw_fld, if_neg]
    · rfl
    · intro hz
      exact hne (by rw [ftv ci k t0 ti rfl]; exact hz)
  · exact h.elim
theorem gw_s_iaload (F : gw_fx p s m args c x nL cb own) (hd : decode cb pc = .ok (.iaload, 1)) (hlk : gw_lk own nL rt pc (.iaload) an iv sg = true) (h : gw_step ok x mc ms Q K (.iaload) an iv sg lv st S μ cc ss N) (hN : ∀ lv st S μ cc ss, N lv st S μ cc ss → gw_at p l e R s m args below meth c Z x nL (pc + 1) lv st S μ cc ss) (hK : ∀ t lv st S μ cc ss, K t lv st S μ cc ss → gw_at p l e R s m args below meth c Z x nL t lv st S μ cc ss) : gw_at p l e R s m args below meth c Z x nL pc lv st S μ cc ss := by
  simp only [gw_step] at h
  split at h
  · rename_i i a t
    obtain ⟨hk, hin, hn⟩ := h
    intro H locs ls hr hl
    obtain ⟨h1, h2, hc, hra⟩ := gw_kd_ok hr hk (by decide)
    show W p l e R s m args below meth c H locs cc ss Z (F0 m pc ls (.int i :: gw_v x (.ref a) :: t.map (gw_v x)))
    rw [hra]
    refine W.iald F.1 F.2.1 (hc.1 hk) ((F.2.2.2.2.2.1.2 0 _ rfl).1 _ _) (fun z => by cases z) (by rw [arrV_size]; exact gw_in_vp hin) (v := .int (μ a i.toNatClampNeg)) (by rw [arrV_read _ _ hin.2]) rfl rfl hd (hN _ _ _ _ _ _ hn H locs ls hr hl)
  · rename_i i t
    obtain ⟨hin, hn⟩ := h
    intro H locs ls hr hl
    obtain ⟨scr, a1, a2, a3, a4, a5⟩ := F.2.2.2.2.2.2.1
    refine W.iald F.1 F.2.1 (a := x.2.2.2.2.2.2.1) (cell := scr) ?_ a2 a3 (by rw [a4]; exact gw_in_vp hin) (a5 _ hin.2) rfl rfl hd (hN _ _ _ _ _ _ hn H locs ls hr hl)
    rw [hr.2.2.2.2.1 _ (by have := hr.2.2.2.1; have := F.2.2.2.2.2.2.2.1; omega)]
    exact a1
  · exact h.elim
theorem gw_s_arraylength (F : gw_fx p s m args c x nL cb own) (hd : decode cb pc = .ok (.arraylength, 1)) (hlk : gw_lk own nL rt pc (.arraylength) an iv sg = true) (h : gw_step ok x mc ms Q K (.arraylength) an iv sg lv st S μ cc ss N) (hN : ∀ lv st S μ cc ss, N lv st S μ cc ss → gw_at p l e R s m args below meth c Z x nL (pc + 1) lv st S μ cc ss) (hK : ∀ t lv st S μ cc ss, K t lv st S μ cc ss → gw_at p l e R s m args below meth c Z x nL t lv st S μ cc ss) : gw_at p l e R s m args below meth c Z x nL pc lv st S μ cc ss := by
  simp only [gw_step] at h
  split at h
  · rename_i a t
    obtain ⟨hk, hn⟩ := h
    intro H locs ls hr hl
    have hk15 : gw_kd S a < 15 := by omega
    obtain ⟨h1, h2, hc, hra⟩ := gw_kd_ok hr rfl hk15
    show W p l e R s m args below meth c H locs cc ss Z (F0 m pc ls (gw_v x (.ref a) :: t.map (gw_v x)))
    rw [hra]
    rcases hk with hk | hk | hk
    · exact W.alen F.1 F.2.1 (hc.1 hk) ((F.2.2.2.2.2.1.2 0 _ rfl).1 _ _) (by rw [arrV_size]) rfl rfl hd (hN _ _ _ _ _ _ hn H locs ls hr hl)
    · exact W.alen F.1 F.2.1 (hc.2.1 hk) ((F.2.2.2.2.2.1.2 1 _ rfl).1 _ _) (by rw [arrV_size]) rfl rfl hd (hN _ _ _ _ _ _ hn H locs ls hr hl)
    · exact W.alen F.1 F.2.1 (hc.2.2.1 hk) ((F.2.2.2.2.2.1.2 2 _ rfl).1 _ _) (by rw [arrV_size]) rfl rfl hd (hN _ _ _ _ _ _ hn H locs ls hr hl)
  · rename_i t
    intro H locs ls hr hl
    obtain ⟨scr, a1, a2, a3, a4, a5⟩ := F.2.2.2.2.2.2.1
    refine W.alen F.1 F.2.1 (a := x.2.2.2.2.2.2.1) (cell := scr) ?_ a2 (by rw [a4]) rfl rfl hd (hN _ _ _ _ _ _ h H locs ls hr hl)
    rw [hr.2.2.2.2.1 _ (by have := hr.2.2.2.1; have := F.2.2.2.2.2.2.2.1; omega)]
    exact a1
  · exact h.elim
theorem gw_s_aaload (F : gw_fx p s m args c x nL cb own) (hd : decode cb pc = .ok (.aaload, 1)) (hlk : gw_lk own nL rt pc (.aaload) an iv sg = true) (h : gw_step ok x mc ms Q K (.aaload) an iv sg lv st S μ cc ss N) (hN : ∀ lv st S μ cc ss, N lv st S μ cc ss → gw_at p l e R s m args below meth c Z x nL (pc + 1) lv st S μ cc ss) (hK : ∀ t lv st S μ cc ss, K t lv st S μ cc ss → gw_at p l e R s m args below meth c Z x nL t lv st S μ cc ss) : gw_at p l e R s m args below meth c Z x nL pc lv st S μ cc ss := by
  simp only [gw_step] at h
  split at h
  · rename_i i a t
    obtain ⟨hk, hin, hn⟩ := h
    intro H locs ls hr hl
    have hk15 : gw_kd S a < 15 := by omega
    obtain ⟨h1, h2, hc, hra⟩ := gw_kd_ok hr rfl hk15
    show W p l e R s m args below meth c H locs cc ss Z (F0 m pc ls (.int i :: gw_v x (.ref a) :: t.map (gw_v x)))
    rw [hra]
    rcases hk with hk | hk
    · exact W.aald F.1 F.2.1 (hc.2.1 hk) ((F.2.2.2.2.2.1.2 1 _ rfl).1 _ _) rfl (fun z => by cases z) (by rw [arrV_size]; exact gw_in_vp hin) (v := gw_v x (.ref (gw_rf S a i.toNatClampNeg))) (by rw [arrV_read _ _ hin.2]) rfl rfl hd (hN _ _ _ _ _ _ hn H locs ls hr hl)
    · exact W.aald F.1 F.2.1 (hc.2.2.1 hk) ((F.2.2.2.2.2.1.2 2 _ rfl).1 _ _) rfl (fun z => by cases z) (by rw [arrV_size]; exact gw_in_vp hin) (v := gw_v x (.ref (gw_rf S a i.toNatClampNeg))) (by rw [arrV_read _ _ hin.2]) rfl rfl hd (hN _ _ _ _ _ _ hn H locs ls hr hl)
  · exact h.elim
theorem gw_up_ne {μ : gw_M} {a k : Nat} {v : Int32} {b : Nat} (h : b ≠ a) (j : Nat) : gw_up μ a k v b j = μ b j := by simp [gw_up, h]
theorem gw_sr_ne {S : gw_S} {a k r : Nat} {b : Nat} (h : b ≠ a) (j : Nat) : gw_rf (gw_sr S a k r) b j = gw_rf S b j := by simp [gw_sr, gw_rf, h]
theorem gw_locs {locs : List Loc} {q : Loc} {a k : Nat} (h : q ∈ locs ++ [(⟨a, k⟩ : Loc)]) : q ∈ locs ∨ q.base = a := by
  rcases List.mem_append.mp h with h | h
  · exact Or.inl h
  · rw [List.mem_singleton.mp h]; exact Or.inr rfl
theorem gw_s_iastore (F : gw_fx p s m args c x nL cb own) (hd : decode cb pc = .ok (.iastore, 1)) (hlk : gw_lk own nL rt pc (.iastore) an iv sg = true) (h : gw_step ok x mc ms Q K (.iastore) an iv sg lv st S μ cc ss N) (hN : ∀ lv st S μ cc ss, N lv st S μ cc ss → gw_at p l e R s m args below meth c Z x nL (pc + 1) lv st S μ cc ss) (hK : ∀ t lv st S μ cc ss, K t lv st S μ cc ss → gw_at p l e R s m args below meth c Z x nL t lv st S μ cc ss) : gw_at p l e R s m args below meth c Z x nL pc lv st S μ cc ss := by
  simp only [gw_step] at h
  split at h
  · rename_i v i a t
    obtain ⟨hk, hin, hn⟩ := h
    intro H locs ls hr hl
    obtain ⟨h1, h2, hc, hra⟩ := gw_kd_ok hr hk (by decide)
    show W p l e R s m args below meth c H locs cc ss Z (F0 m pc ls (.int v :: .int i :: gw_v x (.ref a) :: t.map (gw_v x)))
    rw [hra]
    refine W.iast F.1 F.2.1 (hc.1 hk) ((F.2.2.2.2.2.1.2 0 _ rfl).1 _ _) (fun z => by cases z) (by rw [arrV_size]; exact gw_in_vp hin) rfl rfl hd (fun H1 e1 z1 o1 => ?_)
    refine hN _ _ _ _ _ _ hn H1 _ ls (gw_rep_store hr z1 o1 h1 rfl (fun _ _ _ => rfl) (fun b hb jj => gw_up_ne hb jj) ?_ (fun q hq => gw_locs hq)) hl
    refine ⟨fun _ => ?_, fun z => ?_, fun z => ?_, fun q hq => ?_⟩
    · rw [e1, arrV_store]
      congr 2
      funext jj
      by_cases hj : jj = i.toNatClampNeg
      · subst hj
        simp [updV, gw_up]
      · simp [updV, gw_up, hj]
    · omega
    · omega
    · rw [hk] at hq
      have := (gw_cls hq).2.2.2.2
      omega
  · exact h.elim
theorem gw_s_aastore (F : gw_fx p s m args c x nL cb own) (hd : decode cb pc = .ok (.aastore, 1)) (hlk : gw_lk own nL rt pc (.aastore) an iv sg = true) (h : gw_step ok x mc ms Q K (.aastore) an iv sg lv st S μ cc ss N) (hN : ∀ lv st S μ cc ss, N lv st S μ cc ss → gw_at p l e R s m args below meth c Z x nL (pc + 1) lv st S μ cc ss) (hK : ∀ t lv st S μ cc ss, K t lv st S μ cc ss → gw_at p l e R s m args below meth c Z x nL t lv st S μ cc ss) : gw_at p l e R s m args below meth c Z x nL pc lv st S μ cc ss := by
  simp only [gw_step] at h
  split at h
  · rename_i r i a t
    obtain ⟨hk, hin, hn⟩ := h
    intro H locs ls hr hl
    have hk15 : gw_kd S a < 15 := by omega
    have hr15 : gw_kd S r < 15 := by omega
    obtain ⟨h1, h2, hc, hra⟩ := gw_kd_ok hr rfl hk15
    obtain ⟨g1, g2, hcr, hrr⟩ := gw_kd_ok hr rfl hr15
    show W p l e R s m args below meth c H locs cc ss Z (F0 m pc ls (gw_v x (.ref r) :: .int i :: gw_v x (.ref a) :: t.map (gw_v x)))
    rw [hra, hrr]
    have upd : ∀ cA : ClassId, arrV cA (gw_ln S a) (updV (fun j => gw_v x (.ref (gw_rf S a j))) i.toNatClampNeg (.ref (x.1 + r))) = arrV cA (gw_ln S a) (fun j => gw_v x (.ref (gw_rf (gw_sr S a i.toNatClampNeg r) a j))) := by
      intro cA
      congr 1
      funext jj
      by_cases hj : jj = i.toNatClampNeg
      · subst hj
        simp [updV, gw_sr, gw_rf, ← hrr]
      · simp [updV, gw_sr, gw_rf, hj]
    rcases hk with ⟨hk, hkr⟩ | ⟨hk, hkr⟩
    · obtain ⟨cellV, q1, q2, q3, q4⟩ := hcr.2.2.2 _ (by rw [hkr]; rfl)
      rw [hkr] at q2
      have hcls := (F.2.2.2.2.2.1.1 1 _ rfl).2
      obtain ⟨kA, comp, k1, k2, k3, -⟩ := (F.2.2.2.2.2.1.2 1 _ rfl).2
      have hcomp : comp = x.2.2.1.1 1 := Option.some.inj (k3.symm.trans hcls.1)
      subst hcomp
      obtain ⟨kC, hkC, -⟩ := hcls.2
      refine W.aast F.1 F.2.1 (hc.2.1 hk) (fun q h => by cases h) (fun h => by cases h) k1 k2 rfl hkC ⟨Int32.not_lt.mpr hin.1, by rw [arrV_size]; exact hin.2⟩ q1 (fun q h => by rw [q3] at h; cases h) (by rw [q2]; exact hkC) (by rw [q2]; exact va_assign hcls) rfl rfl hd (fun H1 e1 z1 o1 => ?_)
      refine hN _ _ _ _ _ _ hn H1 _ ls (gw_rep_store hr z1 o1 h1 rfl (fun b hb jj => gw_sr_ne hb jj) (fun _ _ _ => rfl) ?_ (fun q hq => gw_locs hq)) hl
      have hk' : gw_kd (gw_sr S a i.toNatClampNeg r) a = 13 := hk
      refine ⟨fun z => ?_, fun z => ?_, fun z => ?_, fun q hq => ?_⟩
      · omega
      · rw [e1, arrV_store]
        exact congrArg some (upd _)
      · omega
      · rw [hk'] at hq
        have := (gw_cls hq).2.2.2.2
        omega
    · obtain ⟨cellV, q1, q2, q3, q4⟩ := hcr.2.2.2 _ (by rw [hkr]; rfl)
      rw [hkr] at q2
      have hcls := (F.2.2.2.2.2.1.1 3 _ rfl).2
      obtain ⟨kA, comp, k1, k2, k3, -⟩ := (F.2.2.2.2.2.1.2 2 _ rfl).2
      have hcomp : comp = x.2.2.1.1 3 := Option.some.inj (k3.symm.trans hcls.1)
      subst hcomp
      obtain ⟨kC, hkC, -⟩ := hcls.2
      refine W.aast F.1 F.2.1 (hc.2.2.1 hk) (fun q h => by cases h) (fun h => by cases h) k1 k2 rfl hkC ⟨Int32.not_lt.mpr hin.1, by rw [arrV_size]; exact hin.2⟩ q1 (fun q h => by rw [q3] at h; cases h) (by rw [q2]; exact hkC) (by rw [q2]; exact va_assign hcls) rfl rfl hd (fun H1 e1 z1 o1 => ?_)
      refine hN _ _ _ _ _ _ hn H1 _ ls (gw_rep_store hr z1 o1 h1 rfl (fun b hb jj => gw_sr_ne hb jj) (fun _ _ _ => rfl) ?_ (fun q hq => gw_locs hq)) hl
      have hk' : gw_kd (gw_sr S a i.toNatClampNeg r) a = 14 := hk
      refine ⟨fun z => ?_, fun z => ?_, fun z => ?_, fun q hq => ?_⟩
      · omega
      · omega
      · rw [e1, arrV_store]
        exact congrArg some (upd _)
      · rw [hk'] at hq
        have := (gw_cls hq).2.2.2.2
        omega
  · exact h.elim
end SND2
