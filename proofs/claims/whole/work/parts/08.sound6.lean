/-! ===== soundness: fields, arrays, new cells ===== -/
section SND6
variable {p : Program} {l : Launch} {e : Env} {R : Room} {s : State} {m : MethodId} {args : Array Value} {below : List Frame} {meth : Method} {c : Code} {Z : State → Prop} {x : gw_C} {nL : Nat} {cb : ByteArray} {own : String}
variable {d : Nat} {mc ms pc : Nat} {Q : Option Value → gw_S → gw_M → Prop} {K : Nat → gw_Kt} {an : List Nat} {iv : List Int32} {sg : List gw_Sig} {lv st : List Value} {S : gw_S} {μ : gw_M} {cc ss : Nat} {N : gw_Kt} {rt : Option FieldType} {j : Nat}
theorem gw_ac : Cond.arrayClass .int ∈ gw_tb := gw_mem (i := 165) (by decide +kernel) rfl
theorem gw_nonneg {z : Int32} (h : 0 ≤ z) : z.toInt = (z.toNatClampNeg : Int) := by
  have h0 : (0 : Int) ≤ z.toInt := by simpa using Int32.le_iff_toInt_le.mp h
  show z.toInt = ((z.toInt.toNat : Nat) : Int)
  omega
/-- ints of one row into another -/
theorem gw_arraycopy {a b : Nat} {sp dp n : Int32} (F : gw_fx p s m args c x nL cb own) (hRf : d + 1 ≤ R.frames ∧ 40 * d + 40 ≤ R.locals) (hd : decode cb pc = .ok (.invokestatic j, 3)) {t1 t2 t3 t4 : Nat} (c1 : gw_is t1 (.methodLink own j arraycopyName) = true) (c2 : gw_is t2 (.native arraycopyName) = true) (c3 : gw_is t3 (.static arraycopyName) = true) (c4 : gw_is t4 (.initialized "java/lang/System") = true)
    (hka : gw_kd S a = 12) (hkb : gw_kd S b = 12) (h1 : 0 ≤ sp) (h2 : 0 ≤ dp) (h3 : 0 ≤ n) (h4 : sp.toNatClampNeg + n.toNatClampNeg ≤ gw_ln S a) (h5 : dp.toNatClampNeg + n.toNatClampNeg ≤ gw_ln S b) (hn : N lv [] S (gw_cpy μ a b sp.toNatClampNeg dp.toNatClampNeg n.toNatClampNeg) cc ss) (hN : ∀ lv st S μ cc ss, N lv st S μ cc ss → gw_at p l e R s m args below meth c Z x nL (pc + 3) lv st S μ cc ss) : gw_at p l e R s m args below meth c Z x nL pc lv [.int n, .int dp, .ref b, .int sp, .ref a] S μ cc ss := by
  intro H locs ls hr hl T hT X
  obtain ⟨a1, a2, hca, hra⟩ := gw_kd_ok hr hka (by decide)
  obtain ⟨b1, b2, hcb, hrb⟩ := gw_kd_ok hr hkb (by decide)
  have hA := hca.1 hka
  have hB := hcb.1 hkb
  obtain ⟨-, k0, hk0, cm0, hkk0⟩ := (F.2.2.2.2.2.1.2 0 _ rfl).1 (gw_ln S a) (fun j => .int (μ a j))
  obtain ⟨-, k1, hk1, cm1, hkk1⟩ := (F.2.2.2.2.2.1.2 0 _ rfl).1 (gw_ln S b) (fun j => .int (μ b j))
  obtain ⟨vm', X', step⟩ := X.arraycopy F.1 F.2.2.2.1 (F.2.2.2.2.1 _ (gw_is_spec c1)) (F.2.2.2.2.1 _ (gw_is_spec c2)) (F.2.2.2.2.1 _ (gw_is_spec c3)) (F.2.2.2.2.1 _ (gw_is_spec c4)) (srcPos := sp) (destPos := dp) (n := n) (by rw [hT]; exact hA) (by rw [hT]; exact hB)
    (fun _ h => by cases h) (fun _ h => by cases h) (fun h => by cases h) (fun h => by cases h) hk0 hk1 hkk0 hkk1 rfl (Int32.not_lt.mpr h1) (Int32.not_lt.mpr h2) (Int32.not_lt.mpr h3)
    (by rw [gw_nonneg h1, gw_nonneg h3, arrV_size]; omega) (by rw [gw_nonneg h2, gw_nonneg h3, arrV_size]; omega)
    (fun vm₁ _ i hi => by
      have e : (arrV x.2.2.2.1 (gw_ln S a) (fun j => .int (μ a j))).slots.getD (sp.toNatClampNeg + i) .null = .int (μ a (sp.toNatClampNeg + i)) := by
        rw [Array.getD_eq_getD_getElem?, arrV_read _ _ (by omega)]
        rfl
      rw [e]
      exact ⟨rfl, trivial⟩)
    (g := F0 m pc ls ([.int n, .int dp, .ref b, .int sp, .ref a].map (gw_v x))) rfl (by rw [F.2.2.1]; exact hl.1) (rest := []) (by show [Value.int n, .int dp, gw_v x (.ref b), .int sp, gw_v x (.ref a)] = _; rw [hra, hrb]) (by rw [F.2.1]; exact hd) (by omega) (by show 2 * 0 + 0 + (7 + 11) ≤ _; omega)
  have e1 : copied (arrV x.2.2.2.1 (gw_ln S a) (fun j => .int (μ a j))) (arrV x.2.2.2.1 (gw_ln S b) (fun j => .int (μ b j))) sp dp n = arrV x.2.2.2.1 (gw_ln S b) (fun j => .int (va_cpy (μ a) (μ b) sp.toNatClampNeg dp.toNatClampNeg n.toNatClampNeg j)) := va_copied (fun z => .int z) _ _ (μ a) (μ b) h4
  rw [e1] at X' step
  have hlb : x.1 + b < H.size := by rw [hr.2.2.1]; omega
  generalize hc9 : arrV x.2.2.2.1 (gw_ln S b) (fun j => Value.int (va_cpy (μ a) (μ b) sp.toNatClampNeg dp.toNatClampNeg n.toNatClampNeg j)) = c9 at X' step
  have hheap : ((T.setVm vm').setCell (x.1 + b) c9).heap = H.setIfInBounds (x.1 + b) c9 := by rw [← hT]; rfl
  have oq : ∀ q : Nat, q ≠ x.1 + b → (H.setIfInBounds (x.1 + b) c9)[q]? = H[q]? := fun q hq => by simp [Array.getElem?_setIfInBounds, Ne.symm hq]
  have e2 : (H.setIfInBounds (x.1 + b) c9)[x.1 + b]? = some c9 := by simp [Array.getElem?_setIfInBounds, hlb]
  have hrep : gw_rep x S (gw_cpy μ a b sp.toNatClampNeg dp.toNatClampNeg n.toNatClampNeg) (H.setIfInBounds (x.1 + b) c9) (locs ++ ((arrV x.2.2.2.1 (gw_ln S a) (fun j => Value.int (μ a j))).stretch sp.toNatClampNeg n.toNatClampNeg).zipIdx.map fun q => (⟨x.1 + b, dp.toNatClampNeg + q.2⟩ : Loc)) := by
    refine gw_rep_store (a := b) hr (by simp) oq b1 rfl (fun _ _ _ => rfl) (fun b' hb' jj => by simp [gw_cpy, gw_row, hb']) ?_ (fun q hq => ?_)
    · refine ⟨fun _ => ?_, fun z => by omega, fun z => by omega, fun q hq => ?_⟩
      · rw [e2, ← hc9]
        congr 2
        funext jj
        simp [gw_cpy, gw_row]
      · rw [hkb] at hq
        have := (gw_cls hq).2.2.2.2
        omega
    · rcases List.mem_append.mp hq with h | h
      · exact Or.inl h
      · obtain ⟨z, -, hz⟩ := List.mem_map.mp h
        rw [← hz]
        exact Or.inr rfl
  obtain ⟨t, g1, g2⟩ := hN _ _ _ _ _ _ hn _ _ ls hrep hl _ hheap X'
  exact ⟨t, step t g1, g2⟩
theorem gw_s_invokestatic (F : gw_fx p s m args c x nL cb own) (hRm : mc ≤ R.cells ∧ ms ≤ R.slots) (hRf : d + 1 ≤ R.frames ∧ 40 * d + 40 ≤ R.locals) (hd : decode cb pc = .ok (.invokestatic j, 3)) (hlk : gw_lk own nL rt pc (.invokestatic j) an iv sg = true) (h : gw_step (gw_ok l x d) x mc ms Q K (.invokestatic j) an iv sg lv st S μ cc ss N) (hN : ∀ lv st S μ cc ss, N lv st S μ cc ss → gw_at p l e R s m args below meth c Z x nL (pc + 3) lv st S μ cc ss) (hK : ∀ t lv st S μ cc ss, K t lv st S μ cc ss → gw_at p l e R s m args below meth c Z x nL t lv st S μ cc ss) : gw_at p l e R s m args below meth c Z x nL pc lv st S μ cc ss := by
  simp only [gw_step] at h
  split at h
  · rename_i n t1 t2 t3 t4 g
    simp only [gw_lk, Bool.and_eq_true] at hlk
    exact gw_st0 F hRm hRf hd hlk.1.1.1 hlk.1.1.2 hlk.1.2 hlk.2 h hN
  · rename_i n t1 t2 t3 t4 g
    simp only [gw_lk, Bool.and_eq_true] at hlk
    exact gw_st1 F hRm hRf hd hlk.1.1.1 hlk.1.1.2 hlk.1.2 hlk.2 h hN
  · rename_i t1 t2 t3 t4
    simp only [gw_lk, Bool.and_eq_true] at hlk
    split at h
    · obtain ⟨h1, h2, h3, h4, h5, h6, h7, h8⟩ := h
      exact gw_arraycopy F hRf hd hlk.1.1.1 hlk.1.1.2 hlk.1.2 hlk.2 h1 h2 h3 h4 h5 h6 h7 h8 hN
    · exact h.elim
  · exact h.elim
theorem gw_s_invokespecial (F : gw_fx p s m args c x nL cb own) (hRm : mc ≤ R.cells ∧ ms ≤ R.slots) (hRf : d + 1 ≤ R.frames ∧ 40 * d + 40 ≤ R.locals) (hd : decode cb pc = .ok (.invokespecial j, 3)) (hlk : gw_lk own nL rt pc (.invokespecial j) an iv sg = true) (h : gw_step (gw_ok l x d) x mc ms Q K (.invokespecial j) an iv sg lv st S μ cc ss N) (hN : ∀ lv st S μ cc ss, N lv st S μ cc ss → gw_at p l e R s m args below meth c Z x nL (pc + 3) lv st S μ cc ss) (hK : ∀ t lv st S μ cc ss, K t lv st S μ cc ss → gw_at p l e R s m args below meth c Z x nL t lv st S μ cc ss) : gw_at p l e R s m args below meth c Z x nL pc lv st S μ cc ss := by
  simp only [gw_step] at h
  split at h
  · rename_i t1 t2 t3 t4
    simp only [gw_lk, Bool.and_eq_true] at hlk
    split at h
    · rename_i a
      obtain ⟨ha, hn⟩ := h
      intro H locs ls hr hl
      show W p l e R s m args below meth c H locs cc ss Z (F0 m pc ls [gw_v x (.ref a)])
      rw [gw_v_ref x ha]
      exact W.objInit F.1 F.2.1 F.2.2.2.1 (F.2.2.2.2.1 _ (gw_is_spec hlk.1.1)) (F.2.2.2.2.1 _ (gw_is_spec hlk.1.2)) (F.2.2.2.2.1 _ (gw_is_spec hlk.2)) rfl (by rw [F.2.2.1]; exact hl.1) rfl hd (by omega) (by show 2 * 0 + 0 + 12 ≤ _; omega) (hN _ _ _ _ _ _ hn H locs ls hr hl)
    · exact h.elim
  · rename_i n k0 rest0 g
    cases hv : gw_nth st n with
    | ref a =>
      rw [hv] at h
      simp only [gw_lk] at hlk
      split at hlk
      · rename_i heq1 heq2
        cases heq2
      · rename_i heq1 heq2
        cases heq1
        cases heq2
        simp only [Bool.and_eq_true, decide_eq_true_eq] at hlk
        exact gw_sp0 F hRm hRf hd hlk.1.1.1.1.1 hlk.1.1.1.1.2 hlk.1.1.1.2 hlk.1.1.2 hlk.1.2 hlk.2 hv h hN
      · rename_i heq1 heq2
        cases heq1
        cases heq2
        simp only [Bool.and_eq_true, decide_eq_true_eq] at hlk
        exact gw_sp1 F hRm hRf hd hlk.1.1.1.1.1 hlk.1.1.1.1.2 hlk.1.1.1.2 hlk.1.1.2 hlk.1.2 hlk.2 hv h hN
      · cases hlk
    | retAddr v =>
      rw [hv] at h
      match v, h with
      | 0, h => exact h.elim
      | 1, h => exact h.elim
      | _ + 2, h => exact h.elim
    | _ => rw [hv] at h; exact h.elim
  · exact h.elim
/-- what a frame's end asks -/
def gw_ret (p : Program) (l : Launch) (e : Env) (R : Room) (s : State) (m : MethodId) (args : Array Value) (below : List Frame) (meth : Method) (c : Code) (Z : State → Prop) (x : gw_C) (cb : ByteArray) (rt : Option FieldType) (mc ms : Nat) (Q : Option Value → gw_S → gw_M → Prop) : Prop :=
  ∀ (pc : Nat) (i : Instr) (v : Option Value) (S : gw_S) (μ : gw_M) (cc ss : Nat) (H : Heap) (locs : List Loc) (ls : Array Slot), decode cb pc = .ok (i, 1) →
    ((i = .ireturn ∧ rt = some .int ∧ ∃ w, v = some (.int w)) ∨ (i = .ireturn ∧ rt = some .boolean ∧ ∃ w, v = some (.int w) ∧ (w = 0 ∨ w = 1)) ∨ (i = .lreturn ∧ rt = some .long ∧ ∃ w, v = some (.long w)) ∨ (i = .areturn ∧ (∃ n, rt = some (.object n)) ∧ ∃ w, v = some (.ref w)) ∨ (i = .return_ ∧ rt = none ∧ v = none)) →
    gw_rep x S μ H locs → cc ≤ mc → ss ≤ ms → Q v S μ → W p l e R s m args below meth c H locs cc ss Z (F0 m pc ls (v.toList.map (gw_v x)))
theorem gw_s_ireturn (F : gw_fx p s m args c x nL cb own) (hret : gw_ret p l e R s m args below meth c Z x cb rt mc ms Q) (hd : decode cb pc = .ok (.ireturn, 1)) (hlk : gw_lk own nL rt pc (.ireturn) an iv sg = true) (h : gw_step (gw_ok l x d) x mc ms Q K (.ireturn) an iv sg lv st S μ cc ss N) (hN : ∀ lv st S μ cc ss, N lv st S μ cc ss → gw_at p l e R s m args below meth c Z x nL (pc + 1) lv st S μ cc ss) (hK : ∀ t lv st S μ cc ss, K t lv st S μ cc ss → gw_at p l e R s m args below meth c Z x nL t lv st S μ cc ss) : gw_at p l e R s m args below meth c Z x nL pc lv st S μ cc ss := by
  simp only [gw_step] at h
  simp only [gw_lk, decide_eq_true_eq] at hlk
  split at h
  · rename_i v
    intro H locs ls hr hl
    refine hret pc _ (some (.int v)) S μ cc ss H locs ls hd (Or.inl ⟨rfl, ?_, v, rfl⟩) hr h.1 h.2.1 h.2.2
    rcases hlk with z | z
    · exact z.2
    · cases z.1
  · rename_i v
    intro H locs ls hr hl
    refine hret pc _ (some (.int v)) S μ cc ss H locs ls hd (Or.inr (Or.inl ⟨rfl, ?_, v, rfl, h.1⟩)) hr h.2.1 h.2.2.1 h.2.2.2
    rcases hlk with z | z
    · cases z.1
    · exact z.2
  · exact h.elim
theorem gw_s_lreturn (F : gw_fx p s m args c x nL cb own) (hret : gw_ret p l e R s m args below meth c Z x cb rt mc ms Q) (hd : decode cb pc = .ok (.lreturn, 1)) (hlk : gw_lk own nL rt pc (.lreturn) an iv sg = true) (h : gw_step (gw_ok l x d) x mc ms Q K (.lreturn) an iv sg lv st S μ cc ss N) (hN : ∀ lv st S μ cc ss, N lv st S μ cc ss → gw_at p l e R s m args below meth c Z x nL (pc + 1) lv st S μ cc ss) (hK : ∀ t lv st S μ cc ss, K t lv st S μ cc ss → gw_at p l e R s m args below meth c Z x nL t lv st S μ cc ss) : gw_at p l e R s m args below meth c Z x nL pc lv st S μ cc ss := by
  simp only [gw_step] at h
  simp only [gw_lk, decide_eq_true_eq] at hlk
  split at h
  · rename_i v
    intro H locs ls hr hl
    exact hret pc _ (some (.long v)) S μ cc ss H locs ls hd (Or.inr (Or.inr (Or.inl ⟨rfl, hlk, v, rfl⟩))) hr h.1 h.2.1 h.2.2
  · exact h.elim
theorem gw_s_areturn (F : gw_fx p s m args c x nL cb own) (hret : gw_ret p l e R s m args below meth c Z x cb rt mc ms Q) (hd : decode cb pc = .ok (.areturn, 1)) (hlk : gw_lk own nL rt pc (.areturn) an iv sg = true) (h : gw_step (gw_ok l x d) x mc ms Q K (.areturn) an iv sg lv st S μ cc ss N) (hN : ∀ lv st S μ cc ss, N lv st S μ cc ss → gw_at p l e R s m args below meth c Z x nL (pc + 1) lv st S μ cc ss) (hK : ∀ t lv st S μ cc ss, K t lv st S μ cc ss → gw_at p l e R s m args below meth c Z x nL t lv st S μ cc ss) : gw_at p l e R s m args below meth c Z x nL pc lv st S μ cc ss := by
  simp only [gw_step] at h
  simp only [gw_lk] at hlk
  split at h
  · rename_i v
    intro H locs ls hr hl
    split at hlk
    · rename_i n
      exact hret pc _ (some (.ref v)) S μ cc ss H locs ls hd (Or.inr (Or.inr (Or.inr (Or.inl ⟨rfl, ⟨_, rfl⟩, v, rfl⟩)))) hr h.1 h.2.1 h.2.2
    · cases hlk
  · exact h.elim
theorem gw_s_return_ (F : gw_fx p s m args c x nL cb own) (hret : gw_ret p l e R s m args below meth c Z x cb rt mc ms Q) (hd : decode cb pc = .ok (.return_, 1)) (hlk : gw_lk own nL rt pc (.return_) an iv sg = true) (h : gw_step (gw_ok l x d) x mc ms Q K (.return_) an iv sg lv st S μ cc ss N) (hN : ∀ lv st S μ cc ss, N lv st S μ cc ss → gw_at p l e R s m args below meth c Z x nL (pc + 1) lv st S μ cc ss) (hK : ∀ t lv st S μ cc ss, K t lv st S μ cc ss → gw_at p l e R s m args below meth c Z x nL t lv st S μ cc ss) : gw_at p l e R s m args below meth c Z x nL pc lv st S μ cc ss := by
  simp only [gw_step] at h
  simp only [gw_lk, decide_eq_true_eq] at hlk
  split at h
  · intro H locs ls hr hl
    exact hret pc _ none S μ cc ss H locs ls hd (Or.inr (Or.inr (Or.inr (Or.inr ⟨rfl, hlk, rfl⟩)))) hr h.1 h.2.1 h.2.2
  · exact h.elim
end SND6
