/-! ===== entries are laid ===== -/
def cuf (e : Nat) (P : Nat → Bool) (μ : gw_M) : gw_M := fun a j => if a = e + 9 ∧ j < 16 ∧ P j = true then -1 else if a = e + 10 ∧ j < 16 ∧ P j = true then 0 else μ a j
theorem cuf_is (e : Nat) (P : Nat → Bool) (μ : gw_M) : c_uf e P μ (cuf e P μ) := by
  refine ⟨fun a j h => ?_, fun p hp => ⟨?_, ?_⟩⟩
  · unfold cuf
    rw [if_neg (fun c => h ⟨Or.inl c.1, c.2.1⟩), if_neg (fun c => h ⟨Or.inr c.1, c.2.1⟩)]
  · unfold cuf
    by_cases hP : P p = true
    · rw [if_pos ⟨rfl, hp, hP⟩, if_pos hP]
    · rw [if_neg (fun c => hP c.2.2), if_neg (by omega), if_neg hP]
  · unfold cuf
    by_cases hP : P p = true
    · rw [if_neg (by omega), if_pos ⟨rfl, hp, hP⟩, if_pos hP]
    · rw [if_neg (by omega), if_neg (fun c => hP c.2.2), if_neg hP]
theorem cuf_of {e : Nat} {P : Nat → Bool} {μ μ' : gw_M} (h : c_uf e P μ μ') : μ' = cuf e P μ := cuf_uniq h (cuf_is e P μ)
theorem cuf_ne {e a j : Nat} {P : Nat → Bool} {μ : gw_M} (h : ¬ (a = e + 9 ∨ a = e + 10)) : cuf e P μ a j = μ a j := (cuf_is e P μ).1 a j (fun c => h c.1)
theorem cuf_up {e a j : Nat} {P : Nat → Bool} {μ : gw_M} {v : Int32} (h : ¬ (a = e + 9 ∨ a = e + 10)) : cuf e P (gw_up μ a j v) = gw_up (cuf e P μ) a j v := by
  funext x y
  by_cases hx : x = a ∧ y = j
  · rw [up_eq hx, cuf_ne (by omega), up_eq hx]
  · rw [up_ne hx]
    unfold cuf
    rw [up_ne hx]
theorem cuf_cuf {e : Nat} {P Q : Nat → Bool} {μ : gw_M} : cuf e Q (cuf e P μ) = cuf e (fun p => P p || Q p) μ := cuf_of (cuf_trans (cuf_is e P μ) (cuf_is e Q _))
theorem cuf_cg {e : Nat} {P Q : Nat → Bool} {μ : gw_M} (h : ∀ p, p < 16 → P p = Q p) : cuf e P μ = cuf e Q μ := cuf_of (cuf_congr (cuf_is e P μ) h)
theorem cuf_no {e : Nat} {μ : gw_M} {P : Nat → Bool} (h : ∀ p, p < 16 → P p = false) : cuf e P μ = μ := (cuf_of (cuf_congr cuf_refl (fun p hp => (h p hp).symm))).symm
/-- the table's own put -/
def cput (a q : Nat) (to rt : Int32) (μ : gw_M) : gw_M := gw_up (gw_up (gw_up (gw_up μ (a + 1) q to) (a + 2) q rt) (a + 3) q (μ a 3)) a 3 (μ a 3 + 1)
def cdrop (a q : Nat) (μ : gw_M) : gw_M := gw_up (gw_up μ (a + 1) q (-1)) (a + 2) q 0
theorem c_put {n a q : Nat} (hq : q < 16) {to rt : Int32} {μ : gw_M} : F_X8_put n a (nI q) to rt μ = some (cput a q to rt μ) := by
  have hc : 0 ≤ nI q ∧ q < 16 := ⟨nI_pos' (by omega), hq⟩
  simp only [F_X8_put, gw_let, nI_clamp (show q < 2 ^ 31 by omega), if_pos hc]
  unfold cput
  rw [up_ne (a := a + 3) (a' := a) (by omega), up_ne (a := a + 2) (a' := a) (by omega), up_ne (a := a + 1) (a' := a) (by omega)]
theorem c_dropT {n a q : Nat} (hq : q < 16) {μ : gw_M} : F_X8_drop n a (nI q) μ = some (cdrop a q μ) := by
  have hc : 0 ≤ nI q ∧ q < 16 := ⟨nI_pos' (by omega), hq⟩
  simp only [F_X8_drop, gw_let, nI_clamp (show q < 2 ^ 31 by omega), if_pos hc]
  rfl
theorem c_dropF {n e q : Nat} (hq : q < 16) {μ : gw_M} : F_X8_drop n (e + 8) (nI q) μ = some (cuf e (fun z => decide (z = q)) μ) := by
  obtain ⟨μ', e1, e2⟩ := c_drop (n := n) (e := e) (μ := μ) hq
  rw [e1, cuf_of e2]
def clr (x : Int32) (q : Nat) : Int32 := x &&& (((1 : Int32) <<< (nI q &&& 31)) ^^^ (-1))
theorem clr_bt (x : Int32) {q i : Nat} (hq : q < 16) (hi : i < 16) : (clr x q).toBitVec.getLsbD i = if i = q then false else x.toBitVec.getLsbD i := by
  have := b_clr x (k := q) (by omega) (i := i) (by omega)
  show bt (clr x q) i = if i = q then false else bt x i
  unfold clr
  rw [this]
  by_cases h : i = q
  · simp [h]
  · simp [h]
theorem len16 {L : List Nat} (h1 : L.Nodup) (h2 : ∀ z ∈ L, z < 16) {q : Nat} (hq : q < 16) : (L.filter (fun z => decide (z ≠ q))).length < 16 := by
  have hn : (q :: L.filter (fun z => decide (z ≠ q))).Nodup := by
    rw [List.nodup_cons]
    refine ⟨fun c => ?_, h1.sublist List.filter_sublist⟩
    have := (List.mem_filter.mp c).2
    simp at this
  have hs : (q :: L.filter (fun z => decide (z ≠ q))) ⊆ List.range 16 := by
    intro z hz
    rw [List.mem_range]
    rcases List.mem_cons.mp hz with rfl | hz
    · exact hq
    · exact h2 z (List.mem_filter.mp hz).1
  have := List.Nodup.length_le_of_subset hn hs
  simp only [List.length_cons, List.length_range] at this
  omega
def J5 (i : Nat) : Bool := decide (i = 22) || (decide (738 ≤ i) && decide (i < 754))
theorem J5_na : ∀ k < 9, k ≠ 5 → ∀ i < 993, J5 i = true → na k i = false := by decide +kernel
theorem J5_gd : ∀ i < 993, J5 i = true → gd i = none := by decide +kernel
theorem J5_lt {i : Nat} (h : J5 i = true) : 2 ≤ i ∧ i < 993 := by
  simp only [J5, Bool.or_eq_true, Bool.and_eq_true, decide_eq_true_eq] at h
  omega
theorem N5_na0 : ∀ q < 16, ∀ k < 9, (k = 0 ∨ k = 5 ∨ k = 8) ∨ (na k (706 + 2 * q) = false ∧ na k (707 + 2 * q) = false ∧ na k 27 = false) := by decide +kernel
theorem N5_na (q : Nat) (hq : q < 16) (k : Nat) (hk : k < 9) (h0 : k ≠ 0) (h5 : k ≠ 5) (h8 : k ≠ 8) : na k (706 + 2 * q) = false ∧ na k (707 + 2 * q) = false ∧ na k 27 = false := by
  rcases N5_na0 q hq k hk with h | h
  · omega
  · exact h
theorem N5_nb : ∀ q < 16, ∀ k < 9, k ≠ 5 → nb k 5 q = false ∧ nb k 2 3 = false := by decide +kernel
section LAY
variable {b e m n : Nat} {K N : gw_M} {L3 L2 L : List Nat} {μ s : gw_M}
/-- pages of the outer table of the one in hand that lead to q -/
def tob (e h q : Nat) (μ : gw_M) : Nat → Bool := fun z => decide (μ (e + 49 + 15 * h) z = nI q)
theorem tob_m (hG : G b e m K N L3 L2 μ s) {h : Nat} (hh : h < 3) (q : Nat) {z : Nat} (hz : z < 16) : decide (s (m + 1) (331 + 162 * h + 2 * z) = nI q) = tob e h q μ z := by
  have h1 := (gd_e hh (t := 1) (by decide) hz).1
  have h2 := G_rd hG h1
  rw [show 299 + 162 * h + 32 * 1 + 2 * z = 331 + 162 * h + 2 * z by omega, show e + (45 + 15 * h + 4 * 1) = e + 49 + 15 * h by omega] at h2
  unfold tob
  rw [h2]
theorem m_unfoldTo' (hn : 1000 ≤ n) (hG : G b e m K N L3 L2 μ s) {h : Nat} (hh : h < 3) (h1 : s (m + 1) 15 = nI h) (q : Nat) : ∃ s', F_X11_unfoldTo n m (nI q) s = some s' ∧ G b e m K N (L3.filter (fun p => !tob e h q μ p)) L2 (cuf e (tob e h q μ) μ) s' ∧ m_uf m (tob e h q μ) L3 s s' := by
  have hL := (G_q hG 4 (by decide)).1
  obtain ⟨s', e1, u1⟩ := m_unfoldTo (n := n) hn hh (nI q) (G_q hG 0 (by decide)) hL h1
  have u2 := uf_congr u1 (Q := tob e h q μ) (fun p hp => tob_m hG hh q hp) (fun z hz => ((hL.2.1 z).mp hz).1)
  exact ⟨s', e1, sim_uf hG u2 (cuf_is _ _ _), u2⟩
/-- the model's layEntry of table 2, as an unfolding and then the entry -/
theorem m_lay2 (hn : 1000 ≤ n) (hG : G b e m K N L3 L2 μ s) {h q : Nat} (hh : h < 3) (h1 : s (m + 1) 15 = nI h) (hq : q < 16) {to rt : Int32} : ∃ s1 s', F_X11_layEntry n m 2 (nI q) to rt s = some s' ∧ m_uf m (tob e h q μ) L3 s s1 ∧ onl m 738 22 (gw_up (gw_up (gw_up s1 (m + 1) (706 + 2 * q) to) (m + 1) (707 + 2 * q) (if to = -1 then 0 else rt)) (m + 1) 27 (clr (s1 (m + 1) 27) q)) s' ∧ lst (s' (m + 1)) 738 22 (L2.filter (fun z => decide (z ≠ q)) ++ if to = -1 then [] else [q]) := by
  have hT := G_q hG 0 (by decide)
  have hL := (G_q hG 4 (by decide)).1
  have hL2 := (G_q hG 5 (by decide)).1
  have tq : ∃ rt', rt' = (if to = -1 then (0 : Int32) else rt) := ⟨_, rfl⟩
  obtain ⟨rt', hrt⟩ := tq
  have s0d : ∃ s0, s0 = gw_up (gw_up s (m + 1) (706 + 2 * q) to) (m + 1) (707 + 2 * q) rt' := ⟨_, rfl⟩
  obtain ⟨s0, hs0⟩ := s0d
  have r0 : ∀ i, i ≠ 706 + 2 * q → i ≠ 707 + 2 * q → s0 (m + 1) i = s (m + 1) i := fun i a1 a2 => by rw [hs0, up_ne (by omega), up_ne (by omega)]
  have hT0 : gq_T (s0 (m + 1)) := by
    intro p hp
    obtain ⟨t1, t2, t3⟩ := hT p hp
    refine ⟨?_, ?_, fun h' t hh' ht => ?_⟩
    · by_cases hpq : p = q
      · subst hpq
        rw [hs0, up_ne (by omega), up_eq ⟨rfl, rfl⟩, up_eq ⟨rfl, rfl⟩, hrt]
        intro c
        rw [if_pos c]
      · rw [r0 _ (by omega) (by omega), r0 _ (by omega) (by omega)]; exact t1
    · rw [r0 _ (by omega) (by omega), r0 _ (by omega) (by omega)]; exact t2
    · rw [r0 _ (by omega) (by omega), r0 _ (by omega) (by omega)]; exact t3 h' t hh' ht
  have hL0 : gq_L (s0 (m + 1)) 754 786 23 L3 := gq_L_congr hL (fun p hp => r0 _ (by omega) (by omega)) (r0 _ (by omega) (by omega)) (fun k hk => r0 _ (by omega) (by omega))
  have h10 : s0 (m + 1) 15 = nI h := by rw [r0 _ (by omega) (by omega)]; exact h1
  obtain ⟨s2, e2, u2⟩ := m_unfoldTo (n := n) hn hh (nI q) hT0 hL0 h10
  have u3 := uf_congr u2 (Q := tob e h q μ) (fun p hp => by rw [r0 _ (by omega) (by omega)]; exact tob_m hG hh q hp) (fun z hz => ((hL.2.1 z).mp hz).1)
  have s1d : ∃ s1 : gw_M, s1 = fun a j => if a = m + 1 ∧ (j = 23 ∨ (754 ≤ j ∧ j < 802)) then s2 a j else s a j := ⟨_, rfl⟩
  obtain ⟨s1, hs1⟩ := s1d
  have hs2 : s2 = gw_up (gw_up s1 (m + 1) (706 + 2 * q) to) (m + 1) (707 + 2 * q) rt' := by
    funext a j
    by_cases c : a = m + 1 ∧ (j = 23 ∨ (754 ≤ j ∧ j < 802))
    · rw [up_ne (by omega), up_ne (by omega), hs1]
      simp only [if_pos c]
    · rw [u3.1 a j c, hs0]
      by_cases c1 : a = m + 1 ∧ j = 707 + 2 * q
      · rw [up_eq c1, up_eq c1]
      · rw [up_ne c1, up_ne c1]
        by_cases c2 : a = m + 1 ∧ j = 706 + 2 * q
        · rw [up_eq c2, up_eq c2]
        · rw [up_ne c2, up_ne c2, hs1]
          simp only [if_neg c]
  have u1 : m_uf m (tob e h q μ) L3 s s1 := by
    obtain ⟨w1, w2, w3⟩ := u3
    have rs : ∀ i, (i = 23 ∨ (754 ≤ i ∧ i < 802)) → s1 (m + 1) i = s2 (m + 1) i := fun i hi => by rw [hs1]; exact if_pos ⟨rfl, hi⟩
    refine ⟨fun a j hj => ?_, fun p hp => ?_, ?_, ?_, fun k p hk => ?_⟩
    · rw [hs1]
      simp only [if_neg hj]
    · obtain ⟨w4, w5⟩ := w2 p hp
      rw [rs _ (by omega), rs _ (by omega), w4, w5, r0 _ (by omega) (by omega), r0 _ (by omega) (by omega)]
      exact ⟨rfl, rfl⟩
    · rw [rs _ (by omega)]; exact w3.1
    · exact w3.2.1
    · have hlt := (List.getElem?_eq_some_iff.mp hk).1
      have := w3.2.1
      rw [rs _ (by omega)]; exact w3.2.2 k p hk
  have s3d : ∃ s3, s3 = gw_up s2 (m + 1) 27 (clr (s2 (m + 1) 27) q) := ⟨_, rfl⟩
  obtain ⟨s3, hs3⟩ := s3d
  have hl3 : lst (s3 (m + 1)) 738 22 L2 := by
    have r3 : ∀ i, i ≠ 27 → (i = 22 ∨ (738 ≤ i ∧ i < 754)) → s3 (m + 1) i = s (m + 1) i := fun i a1 a2 => by rw [hs3, up_ne (by omega), u3.1 _ _ (by omega), r0 _ (by omega) (by omega)]
    obtain ⟨l1, l2, l3, l4, l5⟩ := hL2
    refine ⟨by rw [r3 _ (by omega) (by omega)]; exact l4, l3, fun k p hk => ?_⟩
    have hlt := (List.getElem?_eq_some_iff.mp hk).1
    rw [r3 _ (by omega) (by omega)]; exact l5 k p hk
  have hlt : ∀ z ∈ L2, z < 16 := fun z hz => ((hL2.2.1 z).mp hz).1
  obtain ⟨s4, e4, o4, l4⟩ := m_goOut (n0 := n) (p := q) hn (by decide) (by decide) (Or.inl (by decide)) hq hlt hl3
  have hrun : F_X11_layEntry n m 2 (nI q) to rt s = (if to = -1 then some s4 else (F_X11_comeLast n m 738 22 (nI q) s4).bind (fun z => some z)) := by
    have e4' : F_X11_goOut n m 738 22 (nI q) s3 = some s4 := e4
    have key : ∀ x : Int32, x = rt' → F_X11_layEntry_35 n m 2 (nI q) to (nI (706 + 2 * q) + 1) x (gw_up s (m + 1) (706 + 2 * q) to) = (if to = -1 then some s4 else (F_X11_comeLast n m 738 22 (nI q) s4).bind (fun z => some z)) := by
      rintro x rfl
      simp only [F_X11_layEntry_35, gw_let, nI_1, nI_clamp (show 706 + 2 * q + 1 < 2 ^ 31 by omega)]
      rw [if_pos ⟨nI_pos' (by omega), by omega⟩, if_pos (by decide), show 706 + 2 * q + 1 = 707 + 2 * q by omega, ← hs0]
      simp only [F_X11_layEntry_46, gw_let]
      rw [if_pos trivial, e2, Option.bind_some]
      show ((F_X11_goOut n m 738 22 (nI q) (gw_up s2 (m + 1) 27 (clr (s2 (m + 1) 27) q))).bind _) = _
      rw [← hs3, e4', Option.bind_some]
    simp only [F_X11_layEntry, m_entry2 hq, Option.bind_some, gw_let, nI_clamp (show 706 + 2 * q < 2 ^ 31 by omega)]
    rw [if_pos ⟨nI_pos' (by omega), by omega⟩]
    by_cases c : to = -1
    · rw [if_neg (not_not_intro c)]
      exact key 0 (by rw [hrt, if_pos c])
    · rw [if_pos c]
      exact key rt (by rw [hrt, if_neg c])
  have h27 : s2 (m + 1) 27 = s1 (m + 1) 27 := by rw [hs2, up_ne (by omega), up_ne (by omega)]
  have hs3' : s3 = gw_up (gw_up (gw_up s1 (m + 1) (706 + 2 * q) to) (m + 1) (707 + 2 * q) rt') (m + 1) 27 (clr (s1 (m + 1) 27) q) := by rw [hs3, h27, hs2]
  rw [← hrt]
  by_cases c : to = -1
  · rw [if_pos c] at hrun
    refine ⟨s1, s4, hrun, u1, by rw [← hs3']; exact o4, ?_⟩
    rw [if_pos c, List.append_nil]
    exact l4
  · obtain ⟨s5, e5, o5, l5⟩ := m_comeLast (n0 := n) (p := q) (by decide) (by decide) (Or.inl (by decide)) l4 (len16 hL2.1 hlt hq)
    have e5' : F_X11_comeLast n m 738 22 (nI q) s4 = some s5 := e5
    rw [if_neg c, e5', Option.bind_some] at hrun
    refine ⟨s1, s5, hrun, u1, by rw [← hs3']; exact fun a j hj => (o5 a j hj).trans (o4 a j hj), ?_⟩
    rw [if_neg c]
    exact l5
/-- the class's side of it -/
def cl2 (e q : Nat) (to rt : Int32) (μ : gw_M) : gw_M := gw_up (gw_up (gw_up μ (e + 3) q to) (e + 4) q rt) (e + 1) 3 (clr (μ (e + 1) 3) q)
theorem core_lay2 (hG : G b e m K N L3 L2 μ s) {q : Nat} (hq : q < 16) {to rt : Int32} (ht : (to = -1 ∧ rt = 0) ∨ ((∃ f, f ≤ 9 ∧ to = nI f) ∧ ∃ r, r ≤ 7 ∧ rt = nI r)) (hF : ∀ h, h < 3 → s (m + 1) 15 = nI h → ∀ p, p < 16 → s (m + 1) (331 + 162 * h + 2 * p) = nI q → s (m + 1) (754 + 2 * p) = -1) {s' : gw_M} (ho : onl m 738 22 (gw_up (gw_up (gw_up s (m + 1) (706 + 2 * q) to) (m + 1) (707 + 2 * q) rt) (m + 1) 27 (clr (s (m + 1) 27) q)) s') : GX (fun k => decide (k = 5)) b e m K N L3 L2 (cl2 e q to rt μ) s' ∧ ∀ p, p < 16 → s' (m + 1) (706 + 2 * p) = if p = q then to else s (m + 1) (706 + 2 * p) := by
  obtain ⟨d1, d2, -, -, -⟩ := gd_t2 q hq
  obtain ⟨z1, z2, -, -, -⟩ := gd_q2 q hq
  have v1 : gq_r b (706 + 2 * q) to := by
    rcases ht with ⟨rfl, -⟩ | ⟨⟨f, hf, rfl⟩, -⟩
    · exact gq_m1 z1 (by decide)
    · exact gq_nI (n := 9) z1 (by decide) hf (by decide)
  have v2 : gq_r b (707 + 2 * q) rt := by
    rcases ht with ⟨-, rfl⟩ | ⟨-, r, hr, rfl⟩
    · exact gq_nI (k := 0) (n := 7) z2 (by decide) (by decide) (by decide)
    · exact gq_nI (n := 7) z2 (by decide) hr (by decide)
  have h27 := G_rd hG (i := 27) (c := 1) (j := 3) (by decide +kernel)
  have X := GX_up (GX_up (GX_up (GX_of hG) d1 v1) d2 v2) (i := 27) (c := 1) (j := 3) (by decide +kernel) (v := clr (s (m + 1) 27) q) (gq_any (by decide +kernel))
  have hmu : gw_up (gw_up (gw_up μ (e + 3) q to) (e + 4) q rt) (e + 1) 3 (clr (s (m + 1) 27) q) = cl2 e q to rt μ := by
    unfold cl2
    rw [h27]
  rw [hmu] at X
  have X2 := GX_m (E' := fun k => decide (k = 0) || (decide (k = 5) || decide (k = 8))) X (s' := s') J5 (fun a j hj => ho a j (fun c => hj ⟨c.1, by
    rcases c.2 with c2 | c2
    · simp [J5, c2]
    · simp [J5, c2.1, show j < 754 by omega]⟩)) (fun j hj => ⟨(J5_lt hj).1, (J5_lt hj).2, J5_gd j (J5_lt hj).2 hj⟩) (fun k hk hE => by
    simp only [Bool.or_eq_false_iff, decide_eq_false_iff_not] at hE
    obtain ⟨w1, w2, w3⟩ := N5_na q hq k hk hE.1 hE.2.1 hE.2.2
    refine ⟨?_, fun i hi => J5_na k hk hE.2.1 i (J5_lt hi).2 hi⟩
    simp only [w1, w2, w3, Bool.or_false])
  have r' : ∀ i, J5 i = false → i ≠ 27 → i ≠ 706 + 2 * q → i ≠ 707 + 2 * q → s' (m + 1) i = s (m + 1) i := by
    intro i hi a1 a2 a3
    rw [ho _ _ (fun c => by
      rcases c.2 with c2 | c2
      · simp [J5, c2] at hi
      · simp [J5, c2.1, show i < 754 by omega] at hi), up_ne (by omega), up_ne (by omega), up_ne (by omega)]
  have j5 : ∀ i, i ≠ 22 → (i < 738 ∨ 754 ≤ i) → J5 i = false := by
    intro i a1 a2
    cases hJ : J5 i
    · rfl
    · simp only [J5, Bool.or_eq_true, Bool.and_eq_true, decide_eq_true_eq] at hJ
      omega
  have rq : ∀ p, p < 16 → s' (m + 1) (706 + 2 * p) = (if p = q then to else s (m + 1) (706 + 2 * p)) ∧ s' (m + 1) (707 + 2 * p) = (if p = q then rt else s (m + 1) (707 + 2 * p)) := by
    intro p hp
    by_cases hpq : p = q
    · subst hpq
      rw [ho _ _ (by omega), ho _ _ (by omega), up_ne (by omega), up_ne (by omega), up_eq ⟨rfl, rfl⟩, up_ne (by omega), up_eq ⟨rfl, rfl⟩, if_pos rfl, if_pos rfl]
      exact ⟨rfl, rfl⟩
    · rw [if_neg hpq, if_neg hpq, r' _ (j5 _ (by omega) (by omega)) (by omega) (by omega) (by omega), r' _ (j5 _ (by omega) (by omega)) (by omega) (by omega) (by omega)]
      exact ⟨rfl, rfl⟩
  have r27 : s' (m + 1) 27 = clr (s (m + 1) 27) q := by rw [ho _ _ (by omega), up_eq ⟨rfl, rfl⟩]
  have ro : ∀ i, i ≠ 22 → (i < 706 ∨ 754 ≤ i) → i ≠ 27 → s' (m + 1) i = s (m + 1) i := fun i a1 a2 a3 => r' i (j5 i a1 (by omega)) a3 (by omega) (by omega)
  refine ⟨⟨X2.1, X2.2.1, X2.2.2.1, X2.2.2.2.1, fun k hk hE => ?_⟩, fun p hp => (rq p hp).1⟩
  by_cases k0 : k = 0
  · subst k0
    intro p hp
    obtain ⟨t1, t2, t3⟩ := G_q hG 0 (by decide) p hp
    refine ⟨?_, ?_, fun h' t hh' ht' => ?_⟩
    · rw [(rq p hp).1, (rq p hp).2]
      by_cases hpq : p = q
      · rw [if_pos hpq, if_pos hpq]
        intro c
        rcases ht with ⟨-, h2⟩ | ⟨⟨f, hf, h2⟩, -⟩
        · exact h2
        · rw [h2, nI_m1 (by omega)] at c
          exact c.elim
      · rw [if_neg hpq, if_neg hpq]; exact t1
    · rw [ro _ (by omega) (by omega) (by omega), ro _ (by omega) (by omega) (by omega)]; exact t2
    · rw [ro _ (by omega) (by omega) (by omega), ro _ (by omega) (by omega) (by omega)]; exact t3 h' t hh' ht'
  · by_cases k8 : k = 8
    · subst k8
      obtain ⟨f1, f2⟩ := G_q hG 8 (by decide)
      refine ⟨fun h hh hn p hp hf => ?_, by rw [ro 4 (by omega) (by omega) (by omega)]; exact f2⟩
      rw [ro 15 (by omega) (by omega) (by omega)] at hn
      rw [ro _ (by omega) (by omega) (by omega)] at hf
      obtain ⟨q', hq', a1, a2, a3⟩ := f1 h hh hn p hp hf
      have hne : q' ≠ q := by
        rintro rfl
        exact hf (hF h hh hn p hp a1)
      refine ⟨q', hq', by rw [ro _ (by omega) (by omega) (by omega)]; exact a1, ?_, ?_⟩
      · rw [(rq q' hq').1, if_neg hne, ro _ (by omega) (by omega) (by omega)]; exact a2
      · rw [ro _ (by omega) (by omega) (by omega), ro _ (by omega) (by omega) (by omega), a3]
        unfold gr_2
        rw [r27, clr_bt _ hq hq', if_neg hne, (rq q' hq').2, if_neg hne]
    · exact X2.2.2.2.2 k hk (by
        have : k ≠ 5 := by simpa using hE
        simp [k0, k8, this])
/-- gone from table 2 -/
theorem lay2_drop (hG : G b e m K N L3 L2 μ s) {q : Nat} (hq : q < 16) (hF : ∀ h, h < 3 → s (m + 1) 15 = nI h → ∀ p, p < 16 → s (m + 1) (331 + 162 * h + 2 * p) = nI q → s (m + 1) (754 + 2 * p) = -1) {s' : gw_M} (ho : onl m 738 22 (gw_up (gw_up (gw_up s (m + 1) (706 + 2 * q) (-1)) (m + 1) (707 + 2 * q) 0) (m + 1) 27 (clr (s (m + 1) 27) q)) s') (hl : lst (s' (m + 1)) 738 22 (L2.filter (fun z => decide (z ≠ q)))) : G b e m K N L3 (L2.filter (fun z => decide (z ≠ q))) (cl2 e q (-1) 0 μ) s' := by
  obtain ⟨X, rq⟩ := core_lay2 hG hq (Or.inl ⟨rfl, rfl⟩) hF ho
  refine GX_end X (fun _ => rfl) (fun c => by simp at c) (fun k hk hE => ?_)
  have hk5 : k = 5 := by simpa using hE
  subst hk5
  obtain ⟨⟨l1, l2, l3, l4, l5⟩, ⟨c, o1, o2, o3⟩, o4⟩ := G_q hG 5 (by decide)
  refine ⟨⟨l1.sublist List.filter_sublist, fun p => ?_, hl.2.1, hl.1, hl.2.2⟩, ⟨c, o1, ?_, fun p hp => ?_⟩, ?_⟩
  · rw [List.mem_filter, l2 p]
    constructor
    · rintro ⟨⟨w1, w2⟩, w3⟩
      have w4 : p ≠ q := by simpa using w3
      exact ⟨w1, by rw [rq p w1, if_neg w4]; exact w2⟩
    · rintro ⟨w1, w2⟩
      rw [rq p w1] at w2
      by_cases hpq : p = q
      · rw [if_pos hpq] at w2; exact absurd rfl w2
      · rw [if_neg hpq] at w2
        exact ⟨⟨w1, w2⟩, by simpa using hpq⟩
  · unfold cl2
    rw [up_ne (by omega), up_ne (by omega), up_ne (by omega)]; exact o2
  · obtain ⟨k, hk, hv⟩ := o3 p (List.mem_filter.mp hp).1
    refine ⟨k, hk, ?_⟩
    unfold cl2
    rw [up_ne (by omega), up_ne (by omega), up_ne (by omega)]; exact hv
  · have : ∀ p, cl2 e q (-1) 0 μ (e + (2 + 3)) p = μ (e + (2 + 3)) p := fun p => by
      unfold cl2
      rw [up_ne (by omega), up_ne (by omega), up_ne (by omega)]
    simp only [this]
    exact o4.filter _
/-- come into table 2 -/
theorem lay2_put (hG : G b e m K N L3 L2 μ s) (hb : b + 1 < 2 ^ 28) {q f r : Nat} (hq : q < 16) (hf : f ≤ 9) (hr : r ≤ 7) (hF : ∀ h, h < 3 → s (m + 1) 15 = nI h → ∀ p, p < 16 → s (m + 1) (331 + 162 * h + 2 * p) = nI q → s (m + 1) (754 + 2 * p) = -1) {s' : gw_M} (ho : onl m 738 22 (gw_up (gw_up (gw_up s (m + 1) (706 + 2 * q) (nI f)) (m + 1) (707 + 2 * q) (nI r)) (m + 1) 27 (clr (s (m + 1) 27) q)) s') (hl : lst (s' (m + 1)) 738 22 (L2.filter (fun z => decide (z ≠ q)) ++ [q])) : G (b + 1) e m K N L3 (L2.filter (fun z => decide (z ≠ q)) ++ [q]) (gw_up (cput (e + 2) q (nI f) (nI r) μ) (e + 1) 3 (clr (μ (e + 1) 3) q)) s' := by
  obtain ⟨X, rq⟩ := core_lay2 hG hq (Or.inr ⟨⟨f, hf, rfl⟩, ⟨r, hr, rfl⟩⟩) hF ho
  obtain ⟨⟨l1, l2, l3, l4, l5⟩, ⟨c, o1, o2, o3⟩, o4⟩ := G_q hG 5 (by decide)
  have hbb := G_b hG
  have hmu : gw_up (cput (e + 2) q (nI f) (nI r) μ) (e + 1) 3 (clr (μ (e + 1) 3) q) = gw_up (gw_up (cl2 e q (nI f) (nI r) μ) (e + 5) q (nI c)) (e + 2) 3 (nI (c + 1)) := by
    unfold cput cl2
    rw [o2, nI_1, up_comm (a := e + 2) (a' := e + 1) (by omega), up_comm (a := e + 2 + 3) (a' := e + 1) (by omega)]
  rw [hmu]
  have X2 := GX_c (GX_c (GX_b X (Nat.le_succ b) hb) (c := 5) (j := q) (by decide) (gd_nbc (k := 5) (by decide) rfl) (nI c)) (c := 2) (j := 3) (by decide) (gd_nbc (k := 5) (by decide) rfl) (nI (c + 1))
  refine GX_end (E := fun k => decide (k = 5)) (GX_E X2 (fun k hk hE => ?_)) (fun _ => rfl) (fun c => by simp at c) (fun k hk hE => ?_)
  · have hk5 : k ≠ 5 := by simpa using hE
    obtain ⟨w1, w2⟩ := N5_nb q hq k hk hk5
    simp only [w1, w2, Bool.or_false, hE]
  have hk5 : k = 5 := by simpa using hE
  subst hk5
  have hm1 : ¬ nI f = -1 := by rw [nI_m1 (by omega)]; exact id
  have ev5 : ∀ p, gw_up (gw_up (cl2 e q (nI f) (nI r) μ) (e + 5) q (nI c)) (e + 2) 3 (nI (c + 1)) (e + (2 + 3)) p = if p = q then nI c else μ (e + (2 + 3)) p := by
    intro p
    rw [up_ne (by omega), up_at]
    by_cases hpq : p = q
    · rw [if_pos ⟨by omega, hpq⟩, if_pos hpq]
    · rw [if_neg (by omega), if_neg hpq]
      unfold cl2
      rw [up_ne (by omega), up_ne (by omega), up_ne (by omega)]
  refine ⟨⟨?_, fun p => ?_, hl.2.1, hl.1, hl.2.2⟩, ⟨c + 1, by omega, ?_, fun p hp => ?_⟩, ?_⟩
  · rw [List.nodup_append]
    refine ⟨l1.sublist List.filter_sublist, by simp, fun a ha b' hb' => ?_⟩
    have h1 : a ≠ q := by simpa using (List.mem_filter.mp ha).2
    have h2 : b' = q := by simpa using hb'
    rw [h2]; exact h1
  · rw [List.mem_append, List.mem_filter, l2 p]
    constructor
    · rintro (⟨⟨w1, w2⟩, w3⟩ | w)
      · have w4 : p ≠ q := by simpa using w3
        exact ⟨w1, by rw [rq p w1, if_neg w4]; exact w2⟩
      · have w4 : p = q := by simpa using w
        subst w4
        exact ⟨hq, by rw [rq p hq, if_pos rfl]; exact hm1⟩
    · rintro ⟨w1, w2⟩
      rw [rq p w1] at w2
      by_cases hpq : p = q
      · right; simpa using hpq
      · rw [if_neg hpq] at w2
        exact Or.inl ⟨⟨w1, w2⟩, by simpa using hpq⟩
  · rw [up_eq ⟨rfl, rfl⟩]
  · rw [ev5]
    by_cases hpq : p = q
    · exact ⟨c, by omega, by rw [if_pos hpq]⟩
    · rw [if_neg hpq]
      rcases List.mem_append.mp hp with h1 | h1
      · obtain ⟨k, hk, hv⟩ := o3 p (List.mem_filter.mp h1).1
        exact ⟨k, by omega, hv⟩
      · exact absurd (by simpa using h1) hpq
  · simp only [ev5]
    rw [List.pairwise_append]
    refine ⟨?_, by simp, fun a ha b' hb' => ?_⟩
    · refine List.Pairwise.imp_of_mem ?_ (o4.filter (fun z => decide (z ≠ q)))
      intro a b' ha hb' hlt
      have h1 : a ≠ q := by simpa using (List.mem_filter.mp ha).2
      have h2 : b' ≠ q := by simpa using (List.mem_filter.mp hb').2
      rw [if_neg h1, if_neg h2]; exact hlt
    · have h1 : a ≠ q := by simpa using (List.mem_filter.mp ha).2
      have h2 : b' = q := by simpa using hb'
      obtain ⟨k, hk, hv⟩ := o3 a (List.mem_filter.mp ha).1
      rw [if_neg h1, if_pos h2, hv, nI_toInt (by omega), nI_toInt (by omega)]
      omega
/-- both: after the unfolding nothing that leads there is folded -/
theorem uf_hF (hG : G b e m K N L3 L2 μ s) {h q : Nat} (hh : h < 3) (h1 : s (m + 1) 15 = nI h) {s1 : gw_M} (hu : m_uf m (tob e h q μ) L3 s s1) : ∀ h', h' < 3 → s1 (m + 1) 15 = nI h' → ∀ p, p < 16 → s1 (m + 1) (331 + 162 * h' + 2 * p) = nI q → s1 (m + 1) (754 + 2 * p) = -1 := by
  intro h' hh' e1 p hp e2
  rw [hu.1 _ _ (by omega)] at e1 e2
  have := nI_inj (by omega) (by omega) (h1.symm.trans e1)
  subst this
  rw [(hu.2.1 p hp).1, if_pos]
  rw [← tob_m hG hh q hp]
  exact decide_eq_true e2
theorem sim_lay2_drop (hn : 1000 ≤ n) (hG : G b e m K N L3 L2 μ s) {h q : Nat} (hh : h < 3) (h1 : s (m + 1) 15 = nI h) (hq : q < 16) : ∃ s', F_X11_layEntry n m 2 (nI q) (-1) 0 s = some s' ∧ G b e m K N (L3.filter (fun p => !tob e h q μ p)) (L2.filter (fun z => decide (z ≠ q))) (cl2 e q (-1) 0 (cuf e (tob e h q μ) μ)) s' := by
  obtain ⟨s1, s', e1, u1, o1, l1⟩ := m_lay2 (n := n) hn hG hh h1 hq (to := -1) (rt := 0)
  rw [if_pos rfl] at o1
  rw [if_pos rfl, List.append_nil] at l1
  exact ⟨s', e1, lay2_drop (sim_uf hG u1 (cuf_is _ _ _)) hq (uf_hF hG hh h1 u1) o1 l1⟩
theorem sim_lay2_put (hn : 1000 ≤ n) (hG : G b e m K N L3 L2 μ s) (hb : b + 1 < 2 ^ 28) {h q f r : Nat} (hh : h < 3) (h1 : s (m + 1) 15 = nI h) (hq : q < 16) (hf : f ≤ 9) (hr : r ≤ 7) : ∃ s', F_X11_layEntry n m 2 (nI q) (nI f) (nI r) s = some s' ∧ G (b + 1) e m K N (L3.filter (fun p => !tob e h q μ p)) (L2.filter (fun z => decide (z ≠ q)) ++ [q]) (gw_up (cput (e + 2) q (nI f) (nI r) (cuf e (tob e h q μ) μ)) (e + 1) 3 (clr (μ (e + 1) 3) q)) s' := by
  obtain ⟨s1, s', e1, u1, o1, l1⟩ := m_lay2 (n := n) hn hG hh h1 hq (to := nI f) (rt := nI r)
  have hm1 : ¬ nI f = -1 := by rw [nI_m1 (by omega)]; exact id
  rw [if_neg hm1] at o1 l1
  have := lay2_put (sim_uf hG u1 (cuf_is _ _ _)) hb hq hf hr (uf_hF hG hh h1 u1) o1 l1
  rw [cuf_ne (show ¬ (e + 1 = e + 9 ∨ e + 1 = e + 10) by omega)] at this
  exact ⟨s', e1, this⟩
end LAY
