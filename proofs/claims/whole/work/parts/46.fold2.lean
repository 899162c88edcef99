/-! ===== folding ===== -/
theorem b_7 : ∀ i, i < 32 → bt 7 i = decide (i < 3) := by decide +kernel
theorem bt_nI3 {k i : Nat} (hk : k < 8) (hi : 3 ≤ i) : bt (nI k) i = false := by
  by_cases h32 : i < 32
  · unfold bt
    rw [BitVec.getLsbD, pk_tn (by omega)]
    exact Nat.testBit_lt_two_pow (Nat.lt_of_lt_of_le hk (Nat.le_trans (by decide : 8 ≤ 2 ^ 3) (Nat.pow_le_pow_right (by decide) hi)))
  · exact b_big (by omega)
theorem small3 {x : Int32} (h : ∀ i, 3 ≤ i → i < 32 → bt x i = false) : ∃ X, X ≤ 7 ∧ x = nI X := by
  have h1 : x &&& 7 = x := by
    apply b_ext
    intro i hi
    rw [b_and, b_7 i hi]
    by_cases h10 : i < 3
    · simp [h10]
    · rw [h i (by omega) hi]; rfl
  have h2 := pk_and x (m := 7) 3 (by decide)
  rw [h1] at h2
  have := Nat.mod_lt x.toBitVec.toNat (show 0 < 2 ^ 3 by decide)
  exact ⟨_, by omega, h2⟩
theorem and_rg {r : Nat} (hr : r ≤ 7) (x : Int32) : ∃ k, k ≤ 7 ∧ nI r &&& x = nI k := small3 (fun i h1 h2 => by rw [b_and, bt_nI3 (by omega) h1]; rfl)
def fa (j : Nat) : Bool := decide (j = 23) || (decide (754 ≤ j) && decide (j < 802))
theorem fa_iff {j : Nat} : fa j = true ↔ (j = 23 ∨ (754 ≤ j ∧ j < 802)) := by simp [fa]
theorem uf_pull {m : Nat} {P : Nat → Bool} {L : List Nat} {s0 s s2 : gw_M} (hu : m_uf m P L s0 s2) (hs : ∀ j, (j = 23 ∨ (754 ≤ j ∧ j < 802)) → s0 (m + 1) j = s (m + 1) j) : ∃ s1, m_uf m P L s s1 ∧ s2 = fun a j => if a = m + 1 ∧ (j = 23 ∨ (754 ≤ j ∧ j < 802)) then s1 a j else s0 a j := by
  have sd : ∃ s1 : gw_M, ∀ a j, s1 a j = if a = m + 1 ∧ (j = 23 ∨ (754 ≤ j ∧ j < 802)) then s2 a j else s a j := ⟨_, fun _ _ => rfl⟩
  obtain ⟨s1, hs1⟩ := sd
  have rs : ∀ i, (i = 23 ∨ (754 ≤ i ∧ i < 802)) → s1 (m + 1) i = s2 (m + 1) i := fun i hi => by rw [hs1]; exact if_pos ⟨rfl, hi⟩
  refine ⟨s1, ⟨fun a j hj => by rw [hs1]; exact if_neg hj, fun p hp => ?_, ?_, ?_, fun k p hk => ?_⟩, ?_⟩
  · obtain ⟨w4, w5⟩ := hu.2.1 p hp
    rw [rs _ (by omega), rs _ (by omega), w4, w5, hs _ (by omega), hs _ (by omega)]
    exact ⟨rfl, rfl⟩
  · rw [rs _ (by omega)]; exact hu.2.2.1
  · exact hu.2.2.2.1
  · have hlt := (List.getElem?_eq_some_iff.mp hk).1
    have := hu.2.2.2.1
    rw [rs _ (by omega)]; exact hu.2.2.2.2 k p hk
  · funext a j
    by_cases c : a = m + 1 ∧ (j = 23 ∨ (754 ≤ j ∧ j < 802))
    · rw [if_pos c, hs1, if_pos c]
    · rw [if_neg c]; exact hu.1 a j c
def J4 (i : Nat) : Bool := decide (i = 23) || (decide (786 ≤ i) && decide (i < 802))
theorem J4_na : ∀ k < 9, k ≠ 4 → ∀ i < 993, J4 i = true → na k i = false := by decide +kernel
theorem J4_gd : ∀ i < 993, J4 i = true → gd i = none := by decide +kernel
theorem J4_lt {i : Nat} (h : J4 i = true) : 2 ≤ i ∧ i < 993 := by
  simp only [J4, Bool.or_eq_true, Bool.and_eq_true, decide_eq_true_eq] at h
  omega
theorem N4_na0 : ∀ q < 16, ∀ k < 9, (k = 0 ∨ k = 4 ∨ k = 8) ∨ (na k (754 + 2 * q) = false ∧ na k (755 + 2 * q) = false) := by decide +kernel
theorem N4_nb : ∀ q < 16, ∀ k < 9, k ≠ 4 → nb k 11 q = false ∧ nb k 8 3 = false := by decide +kernel
section FOLD2
variable {b e m n h : Nat} {K N : gw_M} {L3 L2 L : List Nat} {μ s : gw_M} {P : Nat → Bool}
theorem sim_unfold1 (hn : 1000 ≤ n) (hG : G b e m K N L3 L2 μ s) {p : Nat} (hp : p < 16) : ∃ s', F_X11_unfold n m (nI p) s = some s' ∧ G b e m K N (L3.filter (fun z => !decide (z = p))) L2 (cuf e (fun z => decide (z = p)) μ) s' := by
  obtain ⟨s', e1, u1⟩ := m_unfold (n := n) (p := p) hn (G_q hG 0 (by decide)) (G_q hG 4 (by decide)).1 hp
  exact ⟨s', e1, sim_uf hG u1 (cuf_is _ _ _)⟩
theorem G_L3 (hG : G b e m K N L3 L2 μ s) : L3.Nodup ∧ (∀ p, p ∈ L3 ↔ p < 16 ∧ μ (e + 9) p ≠ -1) ∧ L3.length ≤ 16 ∧ s (m + 1) 23 = nI L3.length ∧ (∀ k p, L3[k]? = some p → s (m + 1) (786 + k) = nI p) ∧ L3.Pairwise (fun p q => (μ (e + 11) p).toInt < (μ (e + 11) q).toInt) := by
  obtain ⟨⟨l1, l2, l3, l4, l5⟩, -, o4⟩ := G_q hG 4 (by decide)
  refine ⟨l1, fun p => ?_, l3, l4, l5, o4⟩
  rw [l2 p]
  constructor
  · rintro ⟨z1, z2⟩
    rw [G_rd hG (gd_t2 p z1).2.2.1] at z2
    exact ⟨z1, z2⟩
  · rintro ⟨z1, z2⟩
    exact ⟨z1, by rw [G_rd hG (gd_t2 p z1).2.2.1]; exact z2⟩
theorem c_sizeF (hn : 1000 ≤ n) (hG : G b e m K N L3 L2 μ s) : F_X8_size n (e + 8) μ = some (nI L3.length) := by
  rw [c_size hn]
  congr 2
  apply len_eq (G_L3 hG).1
  intro p
  rw [(G_L3 hG).2.1 p]
  simp
theorem filt_hd {p : Nat} {L : List Nat} (h : (p :: L).Nodup) : (p :: L).filter (fun z => !decide (z = p)) = L := by
  rw [List.filter_cons, if_neg (by simp), List.filter_eq_self]
  intro z hz
  have : ¬ z = p := fun c => (List.nodup_cons.mp h).1 (c ▸ hz)
  simpa using this
theorem filt_no {p : Nat} {L : List Nat} (h : p ∉ L) : L.filter (fun z => !decide (z = p)) = L := by
  rw [List.filter_eq_self]
  intro z hz
  have : ¬ z = p := fun c => h (c ▸ hz)
  simpa using this
theorem c_dropEldest (hn : 1000 ≤ n) {p : Nat} {L' : List Nat} (hG : G b e m K N (p :: L') L2 μ s) : F_X8_dropEldest n (e + 8) μ = some (cuf e (fun z => decide (z = p)) μ) := by
  obtain ⟨l1, l2, l3, l4, l5, l6⟩ := G_L3 hG
  have hp := ((l2 p).mp List.mem_cons_self).1
  have he : F_X8_eldest n (e + 8) μ = some (nI p) := c_eldest (n := n) (a := e + 8) (L := p :: L') hn l2 l6
  simp only [F_X8_dropEldest, he, Option.bind_some, nI_m1 (show p < 2 ^ 31 by omega), c_dropF hp]
  rfl
/-- the entry is folded -/
theorem core_fold (hG : G b e m K N L3 L2 μ s) (hb : b + 1 < 2 ^ 28) {p q f r1 rr : Nat} (hp : p < 16) (hpL : p ∉ L3) (hh : h < 3) (h1 : s (m + 1) 15 = nI h) (hq : q < 16) (hf : f ≤ 9) (hrr : rr ≤ 7) (ht : s (m + 1) (331 + 162 * h + 2 * p) = nI q) (hw : s (m + 1) (706 + 2 * q) = nI f) (hr1 : s (m + 1) (332 + 162 * h + 2 * p) = nI r1) (hr2 : nI r1 &&& gr_2 (s (m + 1)) q = nI rr) (hroom : (L3.length : Int) < (s (m + 1) 4).toInt) {s' : gw_M} (ho : onl m 786 23 (gw_up (gw_up s (m + 1) (754 + 2 * p) (nI f)) (m + 1) (755 + 2 * p) (nI rr)) s') (hl : lst (s' (m + 1)) 786 23 (L3 ++ [p])) : G (b + 1) e m K N (L3 ++ [p]) L2 (cput (e + 8) p (nI f) (nI rr) μ) s' := by
  obtain ⟨-, -, d1, d2, -⟩ := gd_t2 p hp
  obtain ⟨-, -, z1, z2, -⟩ := gd_q2 p hp
  obtain ⟨⟨l1, l2, l3, l4, l5⟩, ⟨c, o1, o2, o3⟩, o4⟩ := G_q hG 4 (by decide)
  have hbb := G_b hG
  have X := GX_c (GX_c (GX_up (GX_up (GX_b (GX_of hG) (Nat.le_succ b) hb) d1 (v := nI f) (gq_nI (n := 9) z1 (by decide) hf (by decide))) d2 (v := nI rr) (gq_nI (n := 7) z2 (by decide) hrr (by decide))) (c := 11) (j := p) (by decide) (gd_nbc (k := 4) (by decide) rfl) (nI c)) (c := 8) (j := 3) (by decide) (gd_nbc (k := 4) (by decide) rfl) (nI (c + 1))
  have hmu : cput (e + 8) p (nI f) (nI rr) μ = gw_up (gw_up (gw_up (gw_up μ (e + 9) p (nI f)) (e + 10) p (nI rr)) (e + 11) p (nI c)) (e + 8) 3 (nI (c + 1)) := by
    unfold cput
    rw [o2, nI_1]
  rw [← hmu] at X
  have X2 := GX_m (E' := fun k => decide (k = 0) || (decide (k = 4) || decide (k = 8))) X (s' := s') J4 (fun a j hj => ho a j (fun c => hj ⟨c.1, by
    rcases c.2 with c2 | c2
    · simp [J4, c2]
    · simp [J4, c2.1, show j < 802 by omega]⟩)) (fun j hj => ⟨(J4_lt hj).1, (J4_lt hj).2, J4_gd j (J4_lt hj).2 hj⟩) (fun k hk hE => by
    simp only [Bool.or_eq_false_iff, decide_eq_false_iff_not] at hE
    rcases N4_na0 p hp k hk with h0 | ⟨w1, w2⟩
    · omega
    · obtain ⟨w3, w4⟩ := N4_nb p hp k hk hE.2.1
      refine ⟨?_, fun i hi => J4_na k hk hE.2.1 i (J4_lt hi).2 hi⟩
      simp only [w1, w2, w3, w4, Bool.or_false])
  have rp : s' (m + 1) (754 + 2 * p) = nI f ∧ s' (m + 1) (755 + 2 * p) = nI rr := by
    rw [ho _ _ (by omega), ho _ _ (by omega), up_ne (by omega), up_eq ⟨rfl, rfl⟩, up_eq ⟨rfl, rfl⟩]
    exact ⟨rfl, rfl⟩
  have ro : ∀ i, i ≠ 23 → (i < 786 ∨ 802 ≤ i) → i ≠ 754 + 2 * p → i ≠ 755 + 2 * p → s' (m + 1) i = s (m + 1) i := fun i a1 a2 a3 a4 => by rw [ho _ _ (by omega), up_ne (by omega), up_ne (by omega)]
  have hm1 : ¬ nI f = -1 := by rw [nI_m1 (by omega)]; exact id
  have rq : ∀ z, z < 16 → s' (m + 1) (754 + 2 * z) = if z = p then nI f else s (m + 1) (754 + 2 * z) := by
    intro z hz
    by_cases hzp : z = p
    · rw [if_pos hzp, hzp]; exact rp.1
    · rw [if_neg hzp, ro _ (by omega) (by omega) (by omega) (by omega)]
  refine GX_end X2 (fun c => by simp at c) (fun _ => rfl) (fun k hk hE => ?_)
  have hk3 : k = 0 ∨ k = 4 ∨ k = 8 := by simpa using hE
  rcases hk3 with rfl | rfl | rfl
  · intro z hz
    obtain ⟨t1, t2, t3⟩ := G_q hG 0 (by decide) z hz
    refine ⟨?_, ?_, fun h' t hh' ht' => ?_⟩
    · rw [ro _ (by omega) (by omega) (by omega) (by omega), ro _ (by omega) (by omega) (by omega) (by omega)]; exact t1
    · by_cases hzp : z = p
      · subst hzp
        rw [rp.1]
        exact fun c => absurd c hm1
      · rw [ro _ (by omega) (by omega) (by omega) (by omega), ro _ (by omega) (by omega) (by omega) (by omega)]; exact t2
    · rw [ro _ (by omega) (by omega) (by omega) (by omega), ro _ (by omega) (by omega) (by omega) (by omega)]; exact t3 h' t hh' ht'
  · have ev : ∀ z, cput (e + 8) p (nI f) (nI rr) μ (e + (8 + 3)) z = if z = p then nI c else μ (e + (8 + 3)) z := by
      intro z
      rw [hmu, up_ne (by omega), up_at]
      by_cases hzp : z = p
      · rw [if_pos ⟨by omega, hzp⟩, if_pos hzp]
      · rw [if_neg (by omega), if_neg hzp, up_ne (by omega), up_ne (by omega)]
    refine ⟨⟨?_, fun z => ?_, hl.2.1, hl.1, hl.2.2⟩, ⟨c + 1, by omega, ?_, fun z hz => ?_⟩, ?_⟩
    · rw [List.nodup_append]
      refine ⟨l1, by simp, fun a ha b' hb' => ?_⟩
      have h2 : b' = p := by simpa using hb'
      rw [h2]
      exact fun c => hpL (c ▸ ha)
    · rw [List.mem_append, l2 z]
      constructor
      · rintro (⟨w1, w2⟩ | w)
        · refine ⟨w1, ?_⟩
          rw [rq z w1]
          split
          · exact hm1
          · exact w2
        · have w4 : z = p := by simpa using w
          subst w4
          exact ⟨hp, by rw [rp.1]; exact hm1⟩
      · rintro ⟨w1, w2⟩
        rw [rq z w1] at w2
        by_cases hzp : z = p
        · right; simpa using hzp
        · rw [if_neg hzp] at w2
          exact Or.inl ⟨w1, w2⟩
    · rw [hmu, up_eq ⟨rfl, rfl⟩]
    · rw [ev]
      by_cases hzp : z = p
      · exact ⟨c, by omega, by rw [if_pos hzp]⟩
      · rw [if_neg hzp]
        rcases List.mem_append.mp hz with h2 | h2
        · obtain ⟨k, hk, hv⟩ := o3 z h2
          exact ⟨k, by omega, hv⟩
        · exact absurd (by simpa using h2) hzp
    · simp only [ev]
      rw [List.pairwise_append]
      refine ⟨?_, by simp, fun a ha b' hb' => ?_⟩
      · refine List.Pairwise.imp_of_mem ?_ o4
        intro a b' ha hb' hlt
        rw [if_neg (show ¬ a = p from fun c => hpL (c ▸ ha)), if_neg (show ¬ b' = p from fun c => hpL (c ▸ hb'))]; exact hlt
      · have h2 : b' = p := by simpa using hb'
        obtain ⟨k, hk, hv⟩ := o3 a ha
        rw [if_neg (show ¬ a = p from fun c => hpL (c ▸ ha)), if_pos h2, hv, nI_toInt (by omega), nI_toInt (by omega)]
        omega
  · obtain ⟨f1, f2⟩ := G_q hG 8 (by decide)
    refine ⟨fun h' hh' hn z hz hfz => ?_, ?_⟩
    · rw [ro 15 (by omega) (by omega) (by omega) (by omega)] at hn
      have := nI_inj (by omega) (by omega) (h1.symm.trans hn)
      subst this
      have hgr : ∀ y, y < 16 → gr_2 (s' (m + 1)) y = gr_2 (s (m + 1)) y := by
        intro y hy
        unfold gr_2
        rw [ro 27 (by omega) (by omega) (by omega) (by omega), ro _ (by omega) (by omega) (by omega) (by omega)]
      by_cases hzp : z = p
      · subst hzp
        refine ⟨q, hq, by rw [ro _ (by omega) (by omega) (by omega) (by omega)]; exact ht, ?_, ?_⟩
        · rw [rp.1, ro _ (by omega) (by omega) (by omega) (by omega)]; exact hw
        · rw [rp.2, ro _ (by omega) (by omega) (by omega) (by omega), hr1, hgr q hq, hr2]
      · rw [rq z hz, if_neg hzp] at hfz
        obtain ⟨q', hq', a1, a2, a3⟩ := f1 h hh hn z hz hfz
        refine ⟨q', hq', by rw [ro _ (by omega) (by omega) (by omega) (by omega)]; exact a1, ?_, ?_⟩
        · rw [rq z hz, if_neg hzp, ro _ (by omega) (by omega) (by omega) (by omega)]; exact a2
        · rw [ro _ (by omega) (by omega) (by omega) (by omega), ro (332 + 162 * h + 2 * z) (by omega) (by omega) (by omega) (by omega), hgr q' hq', a3]
    · rw [List.length_append, ro 4 (by omega) (by omega) (by omega) (by omega)]
      simp only [List.length_cons, List.length_nil]
      omega
/-- both sides fold, there being room -/
theorem sim_fold0 (hG : G b e m K N L3 L2 μ s) (hb : b + 1 < 2 ^ 28) {p q f : Nat} (hp : p < 16) (hpL : p ∉ L3) (hh : h < 3) (h1 : s (m + 1) 15 = nI h) (hq : q < 16) (hf : f ≤ 9) (ht : μ (e + 49 + 15 * h) p = nI q) (hw : μ (e + 3) q = nI f) (hroom : (L3.length : Int) < (s (m + 1) 4).toInt) (fu : Nat) (hfu : 0 < fu) : ∃ μ' s', F_X3_fold n e (nI p) μ = some μ' ∧ F_X11_fold_0 n m fu (nI p) s = some s' ∧ G (b + 1) e m K N (L3 ++ [p]) L2 μ' s' ∧ μ' (e + 9) p = nI f ∧ μ' = cput (e + 8) p (nI f) (μ' (e + 10) p) μ := by
  obtain ⟨fu, rfl⟩ : ∃ z, fu = z + 1 := ⟨fu - 1, by omega⟩
  obtain ⟨d1, d2, d3, d4⟩ := gd_e hh (t := 1) (by decide) hp
  rw [show 299 + 162 * h + 32 * 1 + 2 * p = 331 + 162 * h + 2 * p by omega] at d1 d3
  rw [show 300 + 162 * h + 32 * 1 + 2 * p = 332 + 162 * h + 2 * p by omega] at d2 d4
  have h5 : μ e 5 = nI h := (G_rd hG (i := 15) (c := 0) (j := 5) (by decide +kernel)).symm.trans h1
  have ht' : s (m + 1) (331 + 162 * h + 2 * p) = nI q := by
    have := G_rd hG d1
    rw [show e + (45 + 15 * h + 4 * 1) = e + 49 + 15 * h by omega] at this
    exact this.trans ht
  have hw' : s (m + 1) (706 + 2 * q) = nI f := (G_rd hG (gd_t2 q hq).1).trans hw
  obtain ⟨r1, hr1, r2, r3⟩ := G_n hG d2 (n := 7) d4
  rw [show e + (46 + 15 * h + 4 * 1) = e + 50 + 15 * h by omega] at r2
  obtain ⟨rr, hrr, r4⟩ := and_rg hr1 (gr_2 (s (m + 1)) q)
  obtain ⟨l1, l2, l3, l4, l5, l6⟩ := G_L3 hG
  obtain ⟨ro, hro1, hro2, hro3⟩ : ∃ k, k ≤ 16 ∧ μ (e + 0) 2 = nI k ∧ s (m + 1) 4 = nI k := by
    have hi : gd 4 = some (0, 2) := by decide +kernel
    have hqq : gd_q 4 = (1, 16, 0) := by decide +kernel
    have h1 := G_rg hG hi
    unfold gq_r at h1
    rw [hqq] at h1
    obtain ⟨k, hk, hv⟩ := nI_of_rg (v := μ (e + 0) 2) (n := 16) (by have := h1.1; simp only at this; omega) (by have := h1.2; simp only at this; omega)
    exact ⟨k, hk, hv, (G_rd hG hi).trans hv⟩
  have hlr : L3.length < ro := by
    rw [hro3, nI_toInt (by omega)] at hroom
    omega
  have s1d : ∃ s1, s1 = gw_up (gw_up s (m + 1) (754 + 2 * p) (nI f)) (m + 1) (755 + 2 * p) (nI rr) := ⟨_, rfl⟩
  obtain ⟨s1, hs1⟩ := s1d
  have hl1 : lst (s1 (m + 1)) 786 23 L3 := by
    have rs : ∀ i, i ≠ 754 + 2 * p → i ≠ 755 + 2 * p → s1 (m + 1) i = s (m + 1) i := fun i a1 a2 => by rw [hs1, up_ne (by omega), up_ne (by omega)]
    refine ⟨by rw [rs _ (by omega) (by omega)]; exact l4, l3, fun k z hk => ?_⟩
    rw [rs _ (by omega) (by omega)]; exact l5 k z hk
  obtain ⟨s', e1, o1, k1⟩ := m_comeLast (n0 := n) (p := p) (by decide) (by decide) (Or.inl (by decide)) hl1 (by omega)
  have e1' : F_X11_comeLast n m 786 23 (nI p) s1 = some s' := e1
  have hT := G_q hG 0 (by decide)
  have s0d : ∃ s0, s0 = gw_up s (m + 1) (754 + 2 * p) (nI f) := ⟨_, rfl⟩
  obtain ⟨s0, hs0⟩ := s0d
  have r0 : ∀ i, i ≠ 754 + 2 * p → s0 (m + 1) i = s (m + 1) i := fun i a1 => by rw [hs0, up_ne (by omega)]
  have hm1 : ¬ nI f = -1 := by rw [nI_m1 (by omega)]; exact id
  have hT0 : gq_T (s0 (m + 1)) := by
    intro z hz
    obtain ⟨t1, t2, t3⟩ := hT z hz
    refine ⟨?_, ?_, fun h' t hh' ht' => ?_⟩
    · rw [r0 _ (by omega), r0 _ (by omega)]; exact t1
    · by_cases hzp : z = p
      · subst hzp
        rw [hs0, up_eq ⟨rfl, rfl⟩]
        exact fun c => absurd c hm1
      · rw [r0 _ (by omega), r0 _ (by omega)]; exact t2
    · rw [r0 _ (by omega), r0 _ (by omega)]; exact t3 h' t hh' ht'
  have g0 : gr_2 (s0 (m + 1)) q = gr_2 (s (m + 1)) q := by
    unfold gr_2
    rw [r0 _ (by omega), r0 _ (by omega)]
  have hr1' : F_X11_rightsOf n m 1 (nI p) s0 = some (nI r1) := by
    have := m_rights01 (n := n) hT0 hh (by rw [r0 _ (by omega)]; exact h1) (t := 1) (by decide) hp
    rw [show 300 + 162 * h + 32 * 1 + 2 * p = 332 + 162 * h + 2 * p by omega, r0 _ (by omega), r3] at this
    exact this
  have hr2' : F_X11_rightsOf n m 2 (nI q) s0 = some (gr_2 (s (m + 1)) q) := by
    have := m_rights2 (n := n) hT0 hq
    rw [g0] at this
    exact this
  have hto : F_X11_toOf n m 1 (nI p) s = some (nI q) := by
    have := m_to01 (n := n) (t := 1) (p := p) hh h1 (by decide) (by omega)
    rw [show 299 + 162 * h + 32 * 1 + 2 * p = 331 + 162 * h + 2 * p by omega, ht'] at this
    exact this
  refine ⟨cput (e + 8) p (nI f) (nI rr) μ, s', ?_, ?_, core_fold hG hb hp hpL hh h1 hq hf hrr ht' hw' r3 r4 hroom (by rw [← hs1]; exact o1) k1, ?_, ?_⟩
  · have hc : 0 ≤ nI p ∧ p < 16 := ⟨nI_pos' (by omega), hp⟩
    have hcq : 0 ≤ nI q ∧ q < 16 := ⟨nI_pos' (by omega), hq⟩
    simp only [F_X3_fold, c_inHand hh h5, Option.bind_some, nI_clamp (show p < 2 ^ 31 by omega), if_pos hc, gw_let, show e + 37 + 15 * h + 12 = e + 49 + 15 * h by omega, show e + 37 + 15 * h + 13 = e + 50 + 15 * h by omega, ht, r2, c_rightsGiven hG hq, r4, nI_clamp (show q < 2 ^ 31 by omega), if_pos hcq, hw, c_put hp]
  · rw [F_X11_fold_0, l4, hro3, if_pos (nI_lt hlr (by omega)), hto, Option.bind_some]
    simp only [m_entry3 (n := n) (m := m) hp, Option.bind_some, m_to2 (n := n) (m := m) (s := s) hq, hw', gw_let, nI_clamp (show 754 + 2 * p < 2 ^ 31 by omega)]
    rw [if_pos ⟨nI_pos' (by omega), by omega⟩, ← hs0, hr1', Option.bind_some, hr2', Option.bind_some, nI_1, nI_clamp (by omega), if_pos ⟨nI_pos' (by omega), by omega⟩, r4, show 754 + 2 * p + 1 = 755 + 2 * p by omega, hs0, ← hs1, e1', Option.bind_some]
  · unfold cput
    rw [up_ne (by omega), up_ne (by omega), up_ne (by omega), up_eq ⟨rfl, rfl⟩]
  · have : cput (e + 8) p (nI f) (nI rr) μ (e + 10) p = nI rr := by
      unfold cput
      rw [up_ne (by omega), up_ne (by omega), up_eq ⟨rfl, rfl⟩]
    rw [this]
/-- with the eldest gone first, if there is no room -/
theorem sim_foldT (hn : 1000 ≤ n) (hG : G b e m K N L3 L2 μ s) (hb : b + 1 < 2 ^ 28) {p q f : Nat} (hp : p < 16) (hpL : p ∉ L3) (hh : h < 3) (h1 : s (m + 1) 15 = nI h) (hq : q < 16) (hf : f ≤ 9) (ht : μ (e + 49 + 15 * h) p = nI q) (hw : μ (e + 3) q = nI f) (v2 v5 : Int32) (hgv : F_X8_gives n (e + 2) v5 v2 μ = some 1) : ∃ μ' s', F_X3_foldOnTouch_116 n e (nI p) v2 v5 μ = some (0, μ') ∧ F_X11_fold n m (nI p) s = some s' ∧ (∃ L3' L2', G (b + 1) e m K N L3' L2' μ' s') ∧ μ' (e + 9) p = nI f ∧ ∀ a j, a < e + 8 ∨ e + 11 < a → μ' a j = μ a j := by
  obtain ⟨l1, l2, l3, l4, l5, l6⟩ := G_L3 hG
  have hno : cuf e (fun z => decide (z = p)) μ = μ := by
    have h9 : μ (e + 9) p = -1 := by
      apply Classical.byContradiction
      intro c
      exact hpL ((l2 p).mpr ⟨hp, c⟩)
    have h10 : μ (e + 10) p = 0 := by
      have := (G_q hG 0 (by decide) p hp).2.1
      rw [G_rd hG (gd_t2 p hp).2.2.1, G_rd hG (gd_t2 p hp).2.2.2.1] at this
      exact this h9
    funext a j
    by_cases c : (a = e + 9 ∨ a = e + 10) ∧ j = p
    · rcases c with ⟨rfl | rfl, rfl⟩
      · rw [((cuf_is _ _ _).2 j hp).1]; simp [h9]
      · rw [((cuf_is _ _ _).2 j hp).2]; simp [h10]
    · unfold cuf
      rw [if_neg, if_neg]
      · rintro ⟨c1, -, c2⟩
        exact c ⟨Or.inr c1, by simpa using c2⟩
      · rintro ⟨c1, -, c2⟩
        exact c ⟨Or.inl c1, by simpa using c2⟩
  obtain ⟨ro, hro1, hro2, hro3⟩ : ∃ k, (1 ≤ k ∧ k ≤ 16) ∧ μ e 2 = nI k ∧ s (m + 1) 4 = nI k := by
    have hi : gd 4 = some (0, 2) := by decide +kernel
    have hqq : gd_q 4 = (1, 16, 0) := by decide +kernel
    have h1 := G_rg hG hi
    unfold gq_r at h1
    rw [hqq] at h1
    obtain ⟨k, hk, hv⟩ := nI_of_rg (v := μ (e + 0) 2) (n := 16) (by have := h1.1; simp only at this; omega) (by have := h1.2; simp only at this; omega)
    rw [hv, nI_toInt (by omega)] at h1
    exact ⟨k, ⟨by have := h1.1; simp only at this; omega, hk⟩, hv, (G_rd hG hi).trans hv⟩
  have hle := (G_q hG 8 (by decide)).2
  rw [hro3, nI_toInt (by omega)] at hle
  have hsz := c_sizeF (n := n) hn hG
  have start : F_X3_foldOnTouch_116 n e (nI p) v2 v5 μ = (if nI L3.length < nI ro then F_X3_foldOnTouch_164 n e (nI p) μ else (F_X8_dropEldest n (e + 8) μ).bind (fun μ_16 => F_X3_foldOnTouch_164 n e (nI p) μ_16)) := by
    simp only [F_X3_foldOnTouch_116, hgv, Option.bind_some, c_dropF hp, hno, hsz, hro2]
    rw [if_pos (by decide)]
  by_cases hlt : L3.length < ro
  · obtain ⟨μ', s', e1, e2, e3, e4, e5⟩ := sim_fold0 (n := n) hG hb hp hpL hh h1 hq hf ht hw (by rw [hro3, nI_toInt (by omega)]; omega) n (by omega)
    refine ⟨μ', s', ?_, e2, ⟨_, _, e3⟩, e4, fun a j ha => ?_⟩
    · rw [start, if_pos (nI_lt hlt (by omega)), F_X3_foldOnTouch_164, e1, Option.bind_some]
    · rw [e5]
      unfold cput
      rw [up_ne (by omega), up_ne (by omega), up_ne (by omega), up_ne (by omega)]
  · have hlen : L3.length = ro := by omega
    obtain ⟨z, L', rfl⟩ : ∃ z L', L3 = z :: L' := by
      cases L3 with
      | nil => simp only [List.length_nil] at hlen; omega
      | cons z L' => exact ⟨z, L', rfl⟩
    have hz := ((l2 z).mp List.mem_cons_self).1
    have h786 : s (m + 1) 786 = nI z := l5 0 z rfl
    obtain ⟨s1, e1, G1⟩ := sim_unfold1 (n := n) hn hG hz
    rw [filt_hd l1] at G1
    have h15 : s1 (m + 1) 15 = nI h := by
      have a1 := G_rd G1 (i := 15) (c := 0) (j := 5) (by decide +kernel)
      have a2 := G_rd hG (i := 15) (c := 0) (j := 5) (by decide +kernel)
      rw [cuf_ne (by omega)] at a1
      rw [a1, ← a2]; exact h1
    have h4 : s1 (m + 1) 4 = nI ro := by
      have a1 := G_rd G1 (i := 4) (c := 0) (j := 2) (by decide +kernel)
      rw [cuf_ne (by omega)] at a1
      rw [a1]; exact hro2
    have hlen' : L'.length + 1 = ro := by simpa using hlen
    obtain ⟨μ', s', k1, k2, k3, k4, k5⟩ := sim_fold0 (n := n) G1 hb hp (fun c => hpL (List.mem_cons_of_mem _ c)) hh h15 hq hf (by rw [cuf_ne (by omega)]; exact ht) (by rw [cuf_ne (by omega)]; exact hw) (by rw [h4, nI_toInt (by omega)]; omega) (n - 1) (by omega)
    refine ⟨μ', s', ?_, ?_, ⟨_, _, k3⟩, k4, fun a j ha => ?_⟩
    · rw [start, if_neg (nI_nlt (by omega) (by omega)), c_dropEldest hn hG, Option.bind_some, F_X3_foldOnTouch_164, k1, Option.bind_some]
    · rw [F_X11_fold, show n = n - 1 + 1 by omega, F_X11_fold_0, l4, hro3, if_neg (nI_nlt (by omega) (by omega)), h786]
      rw [show n - 1 + 1 = n by omega, e1, Option.bind_some]
      exact k2
    · rw [k5]
      unfold cput
      rw [up_ne (by omega), up_ne (by omega), up_ne (by omega), up_ne (by omega), cuf_ne (by omega)]
end FOLD2
