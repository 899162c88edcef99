/-! ===== a step is kept, both sides ===== -/
def PC (b : Nat) (S : gw_S) (e : Nat) (μ : gw_M) (st sz : Nat) (ν : Nat → Nat → Int32) : Prop := st < 20 ∧ sz ≤ 20 ∧ μ e 1 = nI st ∧ μ e 2 = nI sz ∧ ∀ i, i < sz → gw_rf S (e + 1) ((st + i) % 20) ≠ 0 ∧ RR b (gw_rf S (e + 1) ((st + i) % 20)) μ (ν i)
def eZ (A e z0 : Nat) : Prop := (z0 = 0 ∧ e = A + 83) ∨ (z0 = 20 ∧ e = A + 167)
section PUSH
variable {b A m n e z0 k : Nat} {S : gw_S} {μ s : gw_M}
theorem eZ_sh (hS : SH S A m) (he : eZ A e z0) : gw_sh S 5 e ∧ e + 1 ≤ gw_nn S ∧ A ≤ e ∧ e + 2 ≤ m := by
  have h1 := hS.2.2.2.1
  have h2 := hS.2.2.2.2.1
  rcases he with ⟨-, rfl⟩ | ⟨-, rfl⟩
  · exact ⟨gw_sub hS.2.1 5 83 (by decide +kernel), by omega, by omega, by omega⟩
  · exact ⟨gw_sub hS.2.1 5 167 (by decide +kernel), by omega, by omega, by omega⟩
theorem eZ_pp (he : eZ A e z0) (hk : k < 20) : pp S A (z0 + k) = gw_rf S (e + 1) k := by
  rcases he with ⟨rfl, rfl⟩ | ⟨rfl, rfl⟩
  · rw [Nat.zero_add]; exact pp_1 hk
  · exact pp_2 hk
theorem SH_push (hS : SH S A m) (he : eZ A e z0) (hk : k < 20) : SH (gw_pS S e k) A m ∧ (∀ z, z < 40 → pp (gw_pS S e k) A z = if z = z0 + k then gw_pR S e k else pp S A z) ∧ m + 6 ≤ gw_pR S e k ∧ gw_pR S e k + 81 ≤ gw_nn (gw_pS S e k) ∧ (nul (gw_pS S e k) A + if gw_rf S (e + 1) k = 0 then 1 else 0) = nul S A ∧ (∀ z, z < 40 → z ≠ z0 + k → pp S A z ≠ 0 → pp S A z + 82 ≤ gw_pR S e k ∨ gw_pR S e k + 82 ≤ pp S A z) ∧ (∀ j, j < 20 → gw_rf (gw_pS S e k) (e + 1) j = if j = k then gw_pR S e k else gw_rf S (e + 1) j) ∧ gw_nn S ≤ gw_nn (gw_pS S e k) := by
  obtain ⟨hw, h10, h11, h4, h5, h6, h7⟩ := hS
  have hS' : SH S A m := ⟨hw, h10, h11, h4, h5, h6, h7⟩
  obtain ⟨hE, hE1, hE2, hE3⟩ := eZ_sh hS' he
  have hz0 : z0 + k < 40 := by rcases he with ⟨rfl, -⟩ | ⟨rfl, -⟩ <;> omega
  have hpk := eZ_pp (S := S) he hk
  have hrf : ∀ bb j, bb ≤ gw_nn S → gw_rf (gw_pS S e k) bb j = if bb = e + 1 ∧ j = k then gw_pR S e k else gw_rf S bb j := fun bb j hb => gw_pS_rf hw hE hb
  have hpp : ∀ z, z < 40 → pp (gw_pS S e k) A z = if z = z0 + k then gw_pR S e k else pp S A z := by
    intro z hz
    unfold pp
    rw [hrf _ _ (by split <;> omega)]
    by_cases c : z = z0 + k
    · rw [if_pos c, if_pos]
      rcases he with ⟨rfl, rfl⟩ | ⟨rfl, rfl⟩
      · rw [if_pos (by omega)]; omega
      · rw [if_neg (by omega)]; omega
    · rw [if_neg c, if_neg]
      rcases he with ⟨rfl, rfl⟩ | ⟨rfl, rfl⟩
      · by_cases hz2 : z < 20
        · rw [if_pos hz2]; omega
        · rw [if_neg hz2]; omega
      · by_cases hz2 : z < 20
        · rw [if_pos hz2]; omega
        · rw [if_neg hz2]; omega
  have hnn := gw_pS_nn (S := S) (e := e) (k := k)
  have hnew : (gw_rf S (e + 1) k = 0 ∧ gw_pR S e k = gw_nn S + 1 ∧ gw_nn (gw_pS S e k) = gw_nn S + 82) ∨ (gw_rf S (e + 1) k ≠ 0 ∧ gw_pR S e k = gw_rf S (e + 1) k ∧ gw_nn (gw_pS S e k) = gw_nn S) := by
    by_cases c : gw_rf S (e + 1) k = 0
    · exact Or.inl ⟨c, by rw [gw_pR, if_pos c], by rw [hnn, if_pos c]⟩
    · exact Or.inr ⟨c, by rw [gw_pR, if_neg c], by rw [hnn, if_neg c]⟩
  have hR : m + 6 ≤ gw_pR S e k ∧ gw_pR S e k + 81 ≤ gw_nn (gw_pS S e k) := by
    rcases hnew with ⟨c1, c2, c3⟩ | ⟨c1, c2, c3⟩
    · rw [c2, c3]; omega
    · have := (h6 (z0 + k) hz0).resolve_left (by rw [hpk]; exact c1)
      rw [hpk] at this
      rw [c2, c3]
      exact ⟨this.1, this.2.1⟩
  have hdis : ∀ z, z < 40 → z ≠ z0 + k → pp S A z ≠ 0 → pp S A z + 82 ≤ gw_pR S e k ∨ gw_pR S e k + 82 ≤ pp S A z := by
    intro z hz hne h0
    rcases hnew with ⟨c1, c2, c3⟩ | ⟨c1, c2, c3⟩
    · have := (h6 z hz).resolve_left h0
      omega
    · rw [c2, ← hpk]
      exact h7 z (z0 + k) hz hz0 hne h0 (by rw [hpk]; exact c1)
  have hge : gw_nn S ≤ gw_nn (gw_pS S e k) := by
    rcases hnew with ⟨-, -, c3⟩ | ⟨-, -, c3⟩ <;> omega
  have hR0 : gw_pR S e k ≠ 0 := by omega
  refine ⟨⟨wf_pS hw, gw_pS_mono hw hE h10, gw_pS_mono hw hE h11, h4, by omega, fun z hz => ?_, fun z z' hz hz' hne q1 q2 => ?_⟩, hpp, hR.1, hR.2, ?_, hdis, fun j hj => ?_, hge⟩
  · rw [hpp z hz]
    by_cases c : z = z0 + k
    · rw [if_pos c]
      refine Or.inr ⟨hR.1, hR.2, gw_pR_sh hw hE ?_⟩
      have := h6 (z0 + k) hz0
      rw [hpk] at this
      exact this.imp id (fun q => q.2.2)
    · rw [if_neg c]
      exact (h6 z hz).imp id (fun q => ⟨q.1, by omega, gw_pS_mono hw hE q.2.2⟩)
  · rw [hpp z hz] at q1 ⊢
    rw [hpp z' hz'] at q2 ⊢
    by_cases c : z = z0 + k
    · rw [if_pos c]
      have c' : ¬ z' = z0 + k := by omega
      rw [if_neg c'] at q2 ⊢
      have := hdis z' hz' c' q2
      omega
    · rw [if_neg c] at q1 ⊢
      by_cases c' : z' = z0 + k
      · rw [if_pos c']
        exact hdis z hz c q1
      · rw [if_neg c'] at q2 ⊢
        exact h7 z z' hz hz' hne q1 q2
  · unfold nul
    by_cases c : gw_rf S (e + 1) k = 0
    · rw [if_pos c]
      refine nz_one (k := z0 + k) ?_ ?_ 40 hz0 (fun z hz hne => ?_)
      · rw [hpk]; exact decide_eq_true c
      · rw [hpp _ hz0, if_pos rfl]; exact decide_eq_false hR0
      · show decide (pp S A z = 0) = decide (pp (gw_pS S e k) A z = 0)
        rw [hpp z hz, if_neg hne]
    · rw [if_neg c, Nat.add_zero]
      refine nz_cg 40 (fun z hz => ?_)
      show decide (pp (gw_pS S e k) A z = 0) = decide (pp S A z = 0)
      rw [hpp z hz]
      by_cases d : z = z0 + k
      · rw [if_pos d, d, hpk, decide_eq_false hR0, decide_eq_false c]
      · rw [if_neg d]
  · rw [hrf _ _ hE1]
    by_cases c : j = k
    · rw [if_pos ⟨rfl, c⟩, if_pos c]
    · rw [if_neg (fun d => c d.2), if_neg c]
theorem pM_lo {x y : Nat} (hx : x ≤ gw_nn S) : gw_pM S μ e k x y = μ x y := by
  unfold gw_pM
  split
  · have := (gw_mk3 (S := S) (μ := μ)).2.2.2 x (by omega)
    rw [this.2.2.2]
    simp only [gw_row]
    rw [if_neg (by omega)]
  · rfl
/-- the class pushes a row -/
theorem c_push (hn : 1000 ≤ n) (hS : SH S A m) (he : eZ A e z0) {st sz p : Nat} {ν : Nat → Nat → Int32} {ν1 : Nat → Int32} (h : PC b S e μ st sz ν) (hp : RR b p μ ν1) (hpn : p + 81 ≤ gw_nn S) (hpd : p + 82 ≤ gw_pR S e ((st + sz) % 20) ∨ gw_pR S e ((st + sz) % 20) + 82 ≤ p) : ∃ μ1, gw_sl μ e = nI ((st + sz) % 20) ∧ F_X3_copyFrom n (gw_pR S e ((st + sz) % 20)) p (gw_pM S μ e ((st + sz) % 20)) = some μ1 ∧ PC b (gw_pS S e ((st + sz) % 20)) e (gw_pE μ1 e) (kfs st sz) (min (sz + 1) 20) (fun i => if i + 1 = min (sz + 1) 20 then ν1 else ν (if sz = 20 then i + 1 else i)) ∧ ∀ x y, x ≤ gw_nn S → x ≠ e → (x < gw_pR S e ((st + sz) % 20) ∨ gw_pR S e ((st + sz) % 20) + 82 ≤ x) → gw_pE μ1 e x y = μ x y := by
  obtain ⟨h1, h2, h3, h4, h5⟩ := h
  have hk : (st + sz) % 20 < 20 := Nat.mod_lt _ (by decide)
  obtain ⟨q1, q2, q3, q4, q5, q6, q7, q8⟩ := SH_push hS he hk
  obtain ⟨hE, hE1, hE2, hE3⟩ := eZ_sh hS he
  generalize hkd : (st + sz) % 20 = k at *
  have hp' : RR b p (gw_pM S μ e k) ν1 := RR_cg hp (fun c j hc => pM_lo (by omega)) (fun _ _ _ => rfl)
  obtain ⟨μ1, c1, c2, c3⟩ := sim_copy (n := n) hn (a := gw_pR S e k) (p := p) (by omega) hp'
  have me : ∀ y, μ1 e y = μ e y := fun y => by rw [c3 _ _ (by omega), pM_lo (by omega)]
  have pe : ∀ x y, x ≠ e → gw_pE μ1 e x y = μ1 x y := by
    intro x y hx
    unfold gw_pE
    split
    · exact up_ne (by omega)
    · exact up_ne (by omega)
  have fr : ∀ x y, x ≤ gw_nn S → x ≠ e → (x < gw_pR S e k ∨ gw_pR S e k + 82 ≤ x) → gw_pE μ1 e x y = μ x y := fun x y hx hxe hr => by rw [pe x y hxe, c3 x y hr, pM_lo hx]
  refine ⟨μ1, ?_, c1, ⟨?_, by omega, ?_, ?_, fun i hi => ?_⟩, fr⟩
  · unfold gw_sl
    rw [h3, h4, nI_add]
    have := pk_rem (a := st + sz) (d := 20) (by omega) (by decide) (by decide)
    rw [hkd] at this
    exact this
  · unfold kfs
    split
    · exact Nat.mod_lt _ (by decide)
    · exact h1
  · unfold gw_pE kfs
    rw [me, h4, me, h3]
    by_cases h20 : sz = 20
    · subst h20
      rw [if_pos (by decide), if_pos rfl, up_eq ⟨rfl, rfl⟩, nI_1]
      exact pk_rem (by omega) (by decide) (by decide)
    · rw [if_neg (by rw [show (20 : Int32) = nI 20 from rfl]; exact nI_ge (by omega) (by omega)), if_neg h20, up_ne (by omega), me, h3]
  · unfold gw_pE
    rw [me, h4, me]
    by_cases h20 : sz = 20
    · subst h20
      rw [if_pos (by decide), up_ne (by omega), me, h4]
      rfl
    · rw [if_neg (by rw [show (20 : Int32) = nI 20 from rfl]; exact nI_ge (by omega) (by omega)), up_eq ⟨rfl, rfl⟩, nI_1]
      congr 1
      omega
  · rw [q7 _ (Nat.mod_lt _ (by decide))]
    by_cases hl : i + 1 = min (sz + 1) 20
    · have hik : (kfs st sz + i) % 20 = k := by
        unfold kfs
        rw [← hkd]
        by_cases h20 : sz = 20
        · rw [if_pos h20]; omega
        · rw [if_neg h20]; omega
      rw [if_pos hik]
      simp only [if_pos hl]
      refine ⟨by omega, RR_cg c2 (fun c j hc => pe _ _ (by omega)) (fun _ _ _ => rfl)⟩
    · have hik : (kfs st sz + i) % 20 = (st + (if sz = 20 then i + 1 else i)) % 20 ∧ (if sz = 20 then i + 1 else i) < sz ∧ (kfs st sz + i) % 20 ≠ k := by
        unfold kfs
        rw [← hkd]
        by_cases h20 : sz = 20
        · rw [if_pos h20, if_pos h20]; omega
        · rw [if_neg h20, if_neg h20]; omega
      obtain ⟨i1, i2, i3⟩ := hik
      rw [if_neg i3, i1]
      simp only [if_neg hl]
      obtain ⟨w1, w2⟩ := h5 _ i2
      refine ⟨w1, RR_cg w2 (fun c j hc => ?_) (fun _ _ _ => rfl)⟩
      have hlt : (st + (if sz = 20 then i + 1 else i)) % 20 < 20 := Nat.mod_lt _ (by decide)
      have hz : z0 + (st + (if sz = 20 then i + 1 else i)) % 20 < 40 := by rcases he with ⟨rfl, -⟩ | ⟨rfl, -⟩ <;> omega
      have hpz := eZ_pp (S := S) he hlt
      have hd := q6 _ hz (by omega) (by rw [hpz]; exact w1)
      have hr := (hS.2.2.2.2.2.1 _ hz).resolve_left (by rw [hpz]; exact w1)
      rw [hpz] at hd hr
      exact fr _ _ (by omega) (by omega) (by omega)
theorem PR_PC {q : Nat} (h : PR b S e q μ s) : ∃ st fs sz, fs < 20 ∧ s q 0 = nI sz ∧ s q 1 = nI fs ∧ PC b S e μ st sz (fun i j => s q (991 + 991 * ((fs + i) % 20) + j)) := by
  obtain ⟨st, fs, sz, h1, h2, h3, h4, h5, h6, h7, h8⟩ := h
  exact ⟨st, fs, sz, h2, h6, h7, h1, h3, h4, h5, h8⟩
theorem PC_PR {q st fs sz : Nat} {ν : Nat → Nat → Int32} (h : PC b S e μ st sz ν) (hf : fs < 20) (h0 : s q 0 = nI sz) (h1 : s q 1 = nI fs) (hν : ∀ i, i < sz → ∀ j, 2 ≤ j → j < 993 → s q (991 + 991 * ((fs + i) % 20) + j) = ν i j) : PR b S e q μ s := by
  obtain ⟨a1, a2, a3, a4, a5⟩ := h
  exact ⟨st, fs, sz, a1, hf, a2, a3, a4, h0, h1, fun i hi => ⟨(a5 i hi).1, RR_cg (a5 i hi).2 (fun _ _ _ => rfl) (fun j j1 j2 => hν i hi j j1 j2)⟩⟩
def pmc (S : gw_S) (e k : Nat) : Nat := if gw_rf S (e + 1) k = 0 then 82 else 0
def pms (S : gw_S) (e k : Nat) : Nat := if gw_rf S (e + 1) k = 0 then 1107 else 0
/-- a step is kept -/
theorem sim_push (hn : 1000 ≤ n) (hS : SH S A m) (h : R2 b S A m μ s) : ∃ k pu s1, k < 20 ∧ gw_sl μ (A + 83) = nI k ∧ (∃ μ1, F_X3_copyFrom n (gw_pR S (A + 83) k) (A + 1) (gw_pM S μ (A + 83) k) = some μ1 ∧ pu = gw_pE μ1 (A + 83)) ∧ (∀ (l : Launch) (x : gw_C) (d : Nat) (Q1 : Option Value → gw_S → gw_M → Prop), Q1 none (gw_pS S (A + 83) k) pu → gw_ok l x (d + 8) sgX5_push (pmc S (A + 83) k) (pms S (A + 83) k) [.ref (A + 83), .ref (A + 1)] S μ Q1) ∧ F_X11_keep n m s = some s1 ∧ R2 b (gw_pS S (A + 83) k) A m pu s1 ∧ (∀ x y, x < m + 6 → x ≠ A + 83 → pu x y = μ x y) ∧ (∀ x y, x ≠ m + 1 → s1 x y = s x y) ∧ ∀ y, 2 ≤ y → y < 993 → s1 (m + 1) y = s (m + 1) y := by
  obtain ⟨h0, h1, h2, h3, h4⟩ := h
  obtain ⟨st, fs, sz, f1, f2, f3, hP⟩ := PR_PC h2
  have he : eZ A (A + 83) 0 := Or.inl ⟨rfl, rfl⟩
  have hA := hS.2.2.2.1
  have hm := hS.2.2.2.2.1
  have hk : (st + sz) % 20 < 20 := Nat.mod_lt _ (by decide)
  obtain ⟨q1, q2, q3, q4, q5, q6, q7, q8⟩ := SH_push hS he hk
  obtain ⟨μ1, c1, c2, c3, c4⟩ := c_push (n := n) hn hS he hP h1 (by omega) (by omega)
  obtain ⟨s1, k1, k2, k3, k4, k5, k6, k7⟩ := m_keep (n := n) hn f1 hP.2.1 f2 f3
  have lo : ∀ x y, x < m + 6 → x ≠ A + 83 → gw_pE μ1 (A + 83) x y = μ x y := fun x y hx hxe => c4 x y (by omega) hxe (by omega)
  refine ⟨(st + sz) % 20, gw_pE μ1 (A + 83), s1, hk, c1, ⟨μ1, c2, rfl⟩, fun l x d Q1 hq => ?_, k1, ⟨h0, ?_, ?_, ?_, ?_⟩, lo, k5, k4⟩
  · refine ok_X5_push (d := d + 2) (k := (st + sz) % 20) (gw_sub hS.2.1 5 83 (by decide +kernel)) (gw_sub hS.2.1 3 1 (by decide +kernel)) hk c1 ?_ (fun hz => ?_) c2 hq
    · by_cases hz : gw_rf S (A + 83 + 1) ((st + sz) % 20) = 0
      · exact Or.inl hz
      · exact Or.inr (SH_r1 hS hk hz).2.2
    · unfold pmc pms
      rw [if_pos hz, if_pos hz]
      exact ⟨Nat.le_refl _, Nat.le_refl _⟩
  · exact RR_cg h1 (fun c j hc => lo _ _ (by omega) (by omega)) k4
  · refine PC_PR c3 (fs := kfs fs sz) ?_ k2 k3 (fun i hi j j1 j2 => ?_)
    · unfold kfs
      split
      · exact Nat.mod_lt _ (by decide)
      · exact f1
    · have hsz := hP.2.1
      show _ = (if i + 1 = min (sz + 1) 20 then s (m + 1) else fun j => s (m + 1) (991 + 991 * ((fs + (if sz = 20 then i + 1 else i)) % 20) + j)) j
      by_cases hl : i + 1 = min (sz + 1) 20
      · have hik : (kfs fs sz + i) % 20 = (fs + sz) % 20 := by
          unfold kfs
          by_cases h20 : sz = 20
          · rw [if_pos h20]; omega
          · rw [if_neg h20]; omega
        rw [if_pos hl, hik]
        exact k7 j j1 j2
      · have hik : (kfs fs sz + i) % 20 = (fs + (if sz = 20 then i + 1 else i)) % 20 ∧ (kfs fs sz + i) % 20 ≠ (fs + sz) % 20 := by
          unfold kfs
          by_cases h20 : sz = 20
          · rw [if_pos h20, if_pos h20]; omega
          · rw [if_neg h20, if_neg h20]; omega
        rw [if_neg hl, k6 _ (by omega) (by omega), hik.1]
  · exact RR_cg h3 (fun c j hc => lo _ _ (by omega) (by omega)) (fun i _ _ => k5 _ _ (by omega))
  · obtain ⟨st', fs', sz', a1, a2, a3, a4, a5, a6, a7, a8⟩ := h4
    have hrf : ∀ j, j < 20 → gw_rf (gw_pS S (A + 83) ((st + sz) % 20)) (A + 168) j = gw_rf S (A + 168) j := by
      intro j hj
      have := q2 (20 + j) (by omega)
      rw [pp_2 hj, pp_2 hj, if_neg (by omega)] at this
      exact this
    refine ⟨st', fs', sz', a1, a2, a3, by rw [lo _ _ (by omega) (by omega)]; exact a4, by rw [lo _ _ (by omega) (by omega)]; exact a5, by rw [k5 _ _ (by omega)]; exact a6, by rw [k5 _ _ (by omega)]; exact a7, fun i hi => ?_⟩
    obtain ⟨w1, w2⟩ := a8 i hi
    have hlt : (st' + i) % 20 < 20 := Nat.mod_lt _ (by decide)
    have w1' : gw_rf S (A + 168) ((st' + i) % 20) ≠ 0 := w1
    have hd := q6 (20 + (st' + i) % 20) (by omega) (by omega) (by rw [pp_2 hlt]; exact w1')
    rw [pp_2 hlt] at hd
    have hr := SH_r2 hS hlt w1'
    show gw_rf (gw_pS S (A + 83) ((st + sz) % 20)) (A + 168) ((st' + i) % 20) ≠ 0 ∧ RR b (gw_rf (gw_pS S (A + 83) ((st + sz) % 20)) (A + 168) ((st' + i) % 20)) _ _
    rw [hrf _ hlt]
    exact ⟨w1', RR_cg w2 (fun c j hc => c4 _ _ (by show gw_rf S (A + 168) _ + c ≤ _; omega) (by show gw_rf S (A + 168) _ + c ≠ _; omega) (by show gw_rf S (A + 168) _ + c < _ ∨ _ ≤ gw_rf S (A + 168) _ + c; omega)) (fun j _ _ => k5 _ _ (by omega))⟩
/-- the same, for any model that is related -/
theorem sim_push2 (hn : 1000 ≤ n) (hS : SH S A m) (h : R2 b S A m μ s) : ∃ k pu, k < 20 ∧ (∀ (l : Launch) (x : gw_C) (d : Nat) (Q1 : Option Value → gw_S → gw_M → Prop), Q1 none (gw_pS S (A + 83) k) pu → gw_ok l x (d + 8) sgX5_push (pmc S (A + 83) k) (pms S (A + 83) k) [.ref (A + 83), .ref (A + 1)] S μ Q1) ∧ (∀ x y, x < m + 6 → x ≠ A + 83 → pu x y = μ x y) ∧ ∀ s, R2 b S A m μ s → ∃ s1, F_X11_keep n m s = some s1 ∧ R2 b (gw_pS S (A + 83) k) A m pu s1 ∧ (∀ x y, x ≠ m + 1 → s1 x y = s x y) ∧ ∀ y, 2 ≤ y → y < 993 → s1 (m + 1) y = s (m + 1) y := by
  obtain ⟨k, pu, s1, a1, a2, ⟨μ1, a3, a4⟩, a5, -, -, a6, -, -⟩ := sim_push (n := n) hn hS h
  refine ⟨k, pu, a1, a5, a6, fun s' h' => ?_⟩
  obtain ⟨k', pu', s1', b1, b2, ⟨μ1', b3, b4⟩, -, b5, b6, -, b7, b8⟩ := sim_push (n := n) hn hS h'
  have hk : k' = k := nI_inj (by omega) (by omega) (b2.symm.trans a2)
  subst hk
  rw [a3] at b3
  have hμ := Option.some.inj b3
  subst hμ
  rw [← a4] at b4
  subst b4
  exact ⟨s1', b5, b6, b7, b8⟩
end PUSH
