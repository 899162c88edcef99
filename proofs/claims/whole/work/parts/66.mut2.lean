/-! ===== calls that are steps, timers, acts, passing and running ===== -/
def P_sP (z : Nat) : Bool := decide (gd (65 + 162 * (z / 72) + z % 72) = none) && (List.range 9).all (fun k => decide (k = 1) || !na k (65 + 162 * (z / 72) + z % 72))
theorem P_s0 : ∀ z < 288, P_sP z = true := by decide +kernel
theorem P_s {g v : Nat} (hg : g < 4) (hv : v < 72) : gd (65 + 162 * g + v) = none ∧ ∀ k, k < 9 → k ≠ 1 → na k (65 + 162 * g + v) = false := by
  have h1 := P_s0 (72 * g + v) (by omega)
  unfold P_sP at h1
  rw [show (72 * g + v) / 72 = g by omega, show (72 * g + v) % 72 = v by omega] at h1
  simp only [Bool.and_eq_true, decide_eq_true_eq, List.all_eq_true, List.mem_range, Bool.or_eq_true, Bool.not_eq_true'] at h1
  refine ⟨h1.1, fun k hk hk2 => ?_⟩
  rcases h1.2 k hk with c | c
  · exact absurd c hk2
  · exact c
theorem P_na : ∀ g < 4, ∀ k < 9, k ≠ 1 → na k (63 + 162 * g) = false ∧ na k (64 + 162 * g) = false := by decide +kernel
theorem P_nb1 : ∀ k, k < 9 → k ≠ 1 → ∀ g, g < 4 → ∀ c j, gg_c g + 2 ≤ c → c < gg_c g + 5 → nb k c j = false := by
  intro k hk hk1 g hg c j h1 h2
  have hgr := gg_rg g hg
  have hc : c = 14 ∨ c = 15 ∨ c = 16 ∨ c = 40 ∨ c = 41 ∨ c = 42 ∨ c = 55 ∨ c = 56 ∨ c = 57 ∨ c = 70 ∨ c = 71 ∨ c = 72 := by omega
  rcases hc with rfl | rfl | rfl | rfl | rfl | rfl | rfl | rfl | rfl | rfl | rfl | rfl
  all_goals
    match k, hk, hk1 with
    | 0, _, _ => rfl
    | 2, _, _ => rfl
    | 3, _, _ => rfl
    | 4, _, _ => rfl
    | 5, _, _ => rfl
    | 6, _, _ => rfl
    | 7, _, _ => rfl
    | 8, _, _ => rfl
section MUT2
variable {b A m n e : Nat} {K N : gw_M} {L3 L2 : List Nat} {μ s : gw_M}
theorem core_addT (hG : G b e m K N L3 L2 μ s) {c l v : Nat} (hc : s (m + 1) 26 = nI c) (hc12 : c < 12) (hl : l ≤ 2) (hv : v ≤ 15) {dl : Int32} {μ' s' : gw_M} (h1 : μ' (e + 21) 3 = nI (c + 1)) (h2 : μ' (e + 22) c = nI l) (h3 : μ' (e + 23) c = dl) (h4 : μ' (e + 24) c = nI v) (h5 : ∀ a j, ¬ (a = e + 21 ∧ j = 3) → ¬ ((e + 22 ≤ a ∧ a < e + 25) ∧ j = c) → μ' a j = μ a j) (k1 : s' (m + 1) 26 = nI (c + 1)) (k2 : s' (m + 1) (957 + 3 * c) = nI l) (k3 : s' (m + 1) (958 + 3 * c) = dl) (k4 : s' (m + 1) (959 + 3 * c) = nI v) (k5 : ∀ a j, ¬ (a = m + 1 ∧ j = 26) → ¬ (a = m + 1 ∧ 957 + 3 * c ≤ j ∧ j < 960 + 3 * c) → s' a j = s a j) : G b e m K N L3 L2 μ' s' := by
  have X1 := GX_up (GX_of hG) (i := 26) (c := 21) (j := 3) (by decide +kernel) (v := nI (c + 1)) (gq_nI (l := 0) (n := 12) (by decide +kernel) (by decide) (by omega) (by decide))
  have X2 := GX_cs (E' := fun k => decide (k = 3)) X1 (μ' := μ') (fun c' _ => decide (22 ≤ c') && decide (c' < 25)) (fun a j hj => by
    by_cases h0 : a = e + 21 ∧ j = 3
    · rw [up_eq h0, h0.1, h0.2, h1]
    · rw [up_ne h0]
      refine h5 a j h0 (fun c => hj ⟨a - e, by omega, by simp; omega⟩)) (fun c' j hJ => by
    have hJ : 22 ≤ c' ∧ c' < 25 := by simpa using hJ
    refine ⟨by omega, gd_nbc (k := 3) (by decide) ?_⟩
    simp [nb, hJ.1, hJ.2]) (fun k hk hE => by
    have hk3 : k ≠ 3 := by simpa using hE
    refine ⟨?_, fun c' j hJ => ?_⟩
    · have : ∀ k < 9, k ≠ 3 → na k 26 = false := by decide +kernel
      simp only [this k hk hk3, Bool.or_false]
    · have hJ : 22 ≤ c' ∧ c' < 25 := by simpa using hJ
      exact J3_nb k hk hk3 c' j hJ.1 hJ.2)
  have X3 := GX_m (E' := fun k => decide (k = 3)) X2 (s' := s') J3 (fun a j hj => by
    have hj' : ¬ (a = m + 1 ∧ 957 ≤ j ∧ j < 993) := fun c => hj ⟨c.1, by simp [J3, c.2.1, c.2.2]⟩
    by_cases h0 : a = m + 1 ∧ j = 26
    · rw [up_eq h0, h0.1, h0.2, k1]
    · rw [up_ne h0]
      exact k5 a j h0 (by omega)) (fun j hj => by
    have hj2 : 957 ≤ j ∧ j < 993 := by simpa [J3] using hj
    exact ⟨by omega, by omega, J3_gd j (by omega) hj⟩) (fun k hk hE => by
    have hk3 : k ≠ 3 := by simpa using hE
    refine ⟨hE, fun i' hi' => ?_⟩
    have hj2 : 957 ≤ i' ∧ i' < 993 := by simpa [J3] using hi'
    exact J3_na k hk hk3 i' (by omega) hi')
  refine GX_end X3 (fun _ => rfl) (fun _ => rfl) (fun k hk hE => ?_)
  have hk3 : k = 3 := by simpa using hE
  subst hk3
  intro j hj hj12
  rw [k1, nI_toInt (by omega)] at hj
  by_cases hjc : j = c
  · subst hjc
    rw [k2, k3, k4, h2, h3, h4, nI_toInt (by omega), nI_toInt (by omega)]
    exact ⟨rfl, rfl, rfl, by omega, by omega, by omega, by omega⟩
  · rw [k5 _ _ (by omega) (by omega), k5 _ (958 + 3 * j) (by omega) (by omega), k5 _ (959 + 3 * j) (by omega) (by omega), h5 _ _ (by omega) (by omega), h5 (e + 23) _ (by omega) (by omega), h5 (e + 24) _ (by omega) (by omega)]
    exact G_q hG 3 (by decide) j (by rw [hc, nI_toInt (by omega)]; omega) hj12
/-- what a program has is changed -/
theorem core_prog (hG : G b e m K N L3 L2 μ s) {g p Mn : Nat} (hg : g < 4) (hp : p ≤ 23) (hM : Mn ≤ 24) (hpM : p = 0 ∨ p < Mn) {μ' s' : gw_M} (h1 : μ' (e + (gg_c g + 1)) 4 = nI p) (h2 : μ' (e + (gg_c g + 1)) 3 = nI Mn) (h5 : ∀ a j, ¬ (a = e + (gg_c g + 1) ∧ (j = 3 ∨ j = 4)) → ¬ (e + (gg_c g + 2) ≤ a ∧ a < e + (gg_c g + 5)) → μ' a j = μ a j) (k1 : s' (m + 1) (63 + 162 * g) = nI p) (k2 : s' (m + 1) (64 + 162 * g) = nI Mn) (k5 : ∀ a j, ¬ (a = m + 1 ∧ 63 + 162 * g ≤ j ∧ j < 137 + 162 * g) → s' a j = s a j) (hk : ∀ k : Nat, k < Mn → s' (m + 1) (65 + 162 * g + 3 * k) = μ' (e + (gg_c g + 2)) k ∧ s' (m + 1) (66 + 162 * g + 3 * k) = μ' (e + (gg_c g + 3)) k ∧ s' (m + 1) (67 + 162 * g + 3 * k) = μ' (e + (gg_c g + 4)) k ∧ gq_act g (s' (m + 1) (65 + 162 * g + 3 * k)) (s' (m + 1) (66 + 162 * g + 3 * k)) (s' (m + 1) (67 + 162 * g + 3 * k))) : G b e m K N L3 L2 μ' s' := by
  obtain ⟨-, -, -, -, -, r6, r7⟩ := gd_g g hg
  obtain ⟨-, -, -, q6, q7⟩ := gd_gq g hg
  have hgr := gg_rg g hg
  have X1 := GX_up (GX_up (GX_of hG) r6 (v := nI p) (gq_nI (n := 23) q6 (by decide) hp (by decide))) r7 (v := nI Mn) (gq_nI (n := 24) q7 (by decide) hM (by decide))
  have X2 := GX_cs (E' := fun k => decide (k = 1)) X1 (μ' := μ') (fun c' _ => decide (gg_c g + 2 ≤ c') && decide (c' < gg_c g + 5)) (fun a j hj => by
    by_cases h0 : a = e + (gg_c g + 1) ∧ j = 3
    · rw [up_eq h0, h0.1, h0.2, h2]
    · rw [up_ne h0]
      by_cases h0' : a = e + (gg_c g + 1) ∧ j = 4
      · rw [up_eq h0', h0'.1, h0'.2, h1]
      · rw [up_ne h0']
        refine h5 a j (by omega) (fun c => hj ⟨a - e, by omega, by simp; omega⟩)) (fun c' j hJ => by
    have hJ : gg_c g + 2 ≤ c' ∧ c' < gg_c g + 5 := by simpa using hJ
    refine ⟨by omega, gd_nbc (k := 1) (by decide) ?_⟩
    have hc : c' = 14 ∨ c' = 15 ∨ c' = 16 ∨ c' = 40 ∨ c' = 41 ∨ c' = 42 ∨ c' = 55 ∨ c' = 56 ∨ c' = 57 ∨ c' = 70 ∨ c' = 71 ∨ c' = 72 := by omega
    rcases hc with rfl | rfl | rfl | rfl | rfl | rfl | rfl | rfl | rfl | rfl | rfl | rfl <;> rfl) (fun k hk hE => by
    have hk1 : k ≠ 1 := by simpa using hE
    refine ⟨?_, fun c' j hJ => ?_⟩
    · obtain ⟨w1, w2⟩ := P_na g hg k hk hk1
      simp only [w1, w2, Bool.or_false]
    · have hJ : gg_c g + 2 ≤ c' ∧ c' < gg_c g + 5 := by simpa using hJ
      exact P_nb1 k hk hk1 g hg c' j hJ.1 hJ.2)
  have X3 := GX_m (E' := fun k => decide (k = 1)) X2 (s' := s') (fun j => decide (65 + 162 * g ≤ j) && decide (j < 137 + 162 * g)) (fun a j hj => by
    have hj' : ¬ (a = m + 1 ∧ 65 + 162 * g ≤ j ∧ j < 137 + 162 * g) := fun c => hj ⟨c.1, by simp [c.2.1, c.2.2]⟩
    by_cases h0 : a = m + 1 ∧ j = 64 + 162 * g
    · rw [up_eq h0, h0.1, h0.2, k2]
    · rw [up_ne h0]
      by_cases h0' : a = m + 1 ∧ j = 63 + 162 * g
      · rw [up_eq h0', h0'.1, h0'.2, k1]
      · rw [up_ne h0']
        exact k5 a j (by omega)) (fun j hj => by
    have hj2 : 65 + 162 * g ≤ j ∧ j < 137 + 162 * g := by simpa using hj
    have := (P_s hg (v := j - (65 + 162 * g)) (by omega)).1
    rw [show 65 + 162 * g + (j - (65 + 162 * g)) = j by omega] at this
    exact ⟨by omega, by omega, this⟩) (fun k hk hE => by
    have hk1 : k ≠ 1 := by simpa using hE
    refine ⟨hE, fun i' hi' => ?_⟩
    have hj2 : 65 + 162 * g ≤ i' ∧ i' < 137 + 162 * g := by simpa using hi'
    have := (P_s hg (v := i' - (65 + 162 * g)) (by omega)).2 k hk hk1
    rw [show 65 + 162 * g + (i' - (65 + 162 * g)) = i' by omega] at this
    exact this)
  refine GX_end X3 (fun _ => rfl) (fun _ => rfl) (fun k hk9 hE => ?_)
  have hk1 : k = 1 := by simpa using hE
  subst hk1
  intro g' hg'
  by_cases hgg : g' = g
  · subst hgg
    refine ⟨?_, fun k hkM hk24 => ?_⟩
    · rw [k1, k2, nI_toInt (by omega), nI_toInt (by omega)]
      rcases hpM with c | c
      · left; rw [c]; rfl
      · right; omega
    · rw [k2, nI_toInt (by omega)] at hkM
      exact hk k (by omega)
  · obtain ⟨o1, o2⟩ := G_q hG 1 (by decide) g' hg'
    have hgr' := gg_rg g' hg'
    have hcc : gg_c g' ≠ gg_c g := fun c => hgg (gg_in g' hg' g hg c)
    rw [k5 _ (63 + 162 * g') (by omega), k5 _ (64 + 162 * g') (by omega)]
    refine ⟨o1, fun k hkM hk24 => ?_⟩
    rw [k5 _ (65 + 162 * g' + 3 * k) (by omega), k5 _ (66 + 162 * g' + 3 * k) (by omega), k5 _ (67 + 162 * g' + 3 * k) (by omega), h5 _ _ (by omega) (by omega), h5 (e + (gg_c g' + 3)) _ (by omega) (by omega), h5 (e + (gg_c g' + 4)) _ (by omega) (by omega)]
    exact o2 k hkM hk24
end MUT2
section MUT2B
variable {b A m n : Nat} {M s pu s1 : gw_M}
theorem hs_cancel (hn : 1000 ≤ n) (hb : b + 8100 < 2 ^ 28) (g0 : Gs b (A + 1) m M s M s) (g1 : Gs b (A + 1) m pu s1 pu s1) (hk : F_X11_keep n m s = some s1) (hnow : ∀ c y, c < 82 → pu (A + 1 + c) y = M (A + 1 + c) y) (v : Int32) : HSP b A m M s pu s1 (F_X10_cancel n A v M pu) (F_X11_cancel n m v s) := by
  obtain ⟨L3, L2, g⟩ := g0
  obtain ⟨K3, K2, g'⟩ := g1
  obtain ⟨c, hc, c1, c2⟩ := G_tc g
  have c1' : M (A + 22) 3 = nI c := c1
  have p1 : pu (A + 1 + 21) 3 = nI c := (hnow 21 3 (by decide)).trans c1
  have p2 : s1 (m + 1) 26 = nI c := (G_rd g' (i := 26) (c := 21) (j := 3) (by decide +kernel)).trans p1
  simp only [F_X10_cancel, F_X11_cancel, c_within, m_isIn, Option.bind_some, c1', c2]
  by_cases h : isin v 0 (nI c - 1) = 0
  · rw [h]; exact hs_no 0
  · obtain ⟨i, hi, rfl⟩ := isin_k (by omega) h
    rw [if_pos h, if_pos h, hk, Option.bind_some]
    obtain ⟨s2, e1, e2⟩ := m_drop (n := n) hn p2 hi hc
    have e3 : F_X9_removeAt n (A + 22) (nI i) pu = some (crm (A + 1) c i pu) := c_remove (n := n) p1 hi hc
    rw [e1, e3, Option.bind_some, Option.bind_some]
    exact fin_do hn ⟨_, _, sim_rm g' p2 hi hc e2⟩ (by omega) hb 1
theorem hs_timer (hn : 1000 ≤ n) (hb : b + 8100 < 2 ^ 28) (g0 : Gs b (A + 1) m M s M s) (g1 : Gs b (A + 1) m pu s1 pu s1) (hk : F_X11_keep n m s = some s1) (hnow : ∀ c y, c < 82 → pu (A + 1 + c) y = M (A + 1 + c) y) (v w x : Int32) : HSP b A m M s pu s1 (F_X10_timer n A v w x M pu) (F_X11_timer n m v w x s) := by
  obtain ⟨L3, L2, g⟩ := g0
  obtain ⟨K3, K2, g'⟩ := g1
  obtain ⟨c, hc, c1, c2⟩ := G_tc g
  have c1' : M (A + 22) 3 = nI c := c1
  have p1 : pu (A + 1 + 21) 3 = nI c := (hnow 21 3 (by decide)).trans c1
  have p1' : pu (A + 22) 3 = nI c := p1
  have p2 : s1 (m + 1) 26 = nI c := (G_rd g' (i := 26) (c := 21) (j := 3) (by decide +kernel)).trans p1
  simp only [F_X10_timer, F_X11_timer, F_X10_isVector, c_within, m_isIn, Option.bind_some, c1', c2]
  rcases isin_0 v 2 (by decide) with ⟨h, -⟩ | ⟨h, l, hl, rfl⟩
  · have h' : isin v 0 2 = 0 := h
    rw [h']; exact hs_no (-1)
  · have h' : isin (nI l) 0 2 = 1 := h
    rw [h', if_neg (show ¬ (1 : Int32) = 0 by decide), if_neg (show ¬ (1 : Int32) = 0 by decide)]
    by_cases hw : isin w (-99999) 999999 = 0
    · rw [if_pos hw, if_pos hw]; exact hs_no (-1)
    · rw [if_neg hw, if_neg hw]
      rcases isin_0 x 15 (by decide) with ⟨h, -⟩ | ⟨h, y, hy, rfl⟩
      · have h' : isin x 0 15 = 0 := h
        rw [h']; exact hs_no (-1)
      · have h' : isin (nI y) 0 15 = 1 := h
        rw [h', if_neg (show ¬ (1 : Int32) = 0 by decide), if_neg (show ¬ (1 : Int32) = 0 by decide)]
        by_cases h12 : c = 12
        · subst h12
          rw [if_neg (show ¬ nI 12 < 12 by decide), if_neg (show ¬ ¬ nI 12 = 12 by decide)]
          exact hs_no (-1)
        · have hlt : c < 12 := by omega
          rw [if_pos (show nI c < 12 from nI_lt (b := 12) hlt (by decide)), if_pos (show ¬ nI c = 12 from fun d => h12 (nI_inj (b := 12) (by omega) (by omega) d)), hk, Option.bind_some, p2]
          have hcl : (0 ≤ nI c ∧ c < 12) := ⟨nI_pos' (by omega), hlt⟩
          have q3 : gw_up pu (A + 22 + 1) c (nI l) (A + 22) 3 = nI c := by rw [up_ne (by omega)]; exact p1'
          have q5 : gw_up (gw_up pu (A + 22 + 1) c (nI l)) (A + 22 + 2) c w (A + 22) 3 = nI c := by rw [up_ne (by omega)]; exact q3
          have q7 : gw_up (gw_up (gw_up pu (A + 22 + 1) c (nI l)) (A + 22 + 2) c w) (A + 22 + 3) c (nI y) (A + 22) 3 = nI c := by rw [up_ne (by omega)]; exact q5
          have ca : F_X9_add n (A + 22) (nI l) w (nI y) pu = some (gw_up (gw_up (gw_up (gw_up pu (A + 22 + 1) c (nI l)) (A + 22 + 2) c w) (A + 22 + 3) c (nI y)) (A + 22) 3 (nI (c + 1))) := by
            simp only [F_X9_add, gw_let, p1', nI_clamp (show c < 2 ^ 31 by omega), if_pos hcl, q3, q5, q7, nI_1]
          have hw0 : (957 : Int32) + (3 : Int32) * nI c = nI (957 + 3 * c) := by rw [show (957 : Int32) = nI 957 from rfl, show (3 : Int32) = nI 3 from rfl, pk_mul, nI_add]
          have hw1 : nI (957 + 3 * c) + (1 : Int32) = nI (958 + 3 * c) := by rw [nI_1]; congr 1; omega
          have hw2 : nI (957 + 3 * c) + (2 : Int32) = nI (959 + 3 * c) := by rw [show (2 : Int32) = nI 2 from rfl, nI_add]; congr 1; omega
          have r26 : gw_up (gw_up (gw_up s1 (m + 1) (957 + 3 * c) (nI l)) (m + 1) (958 + 3 * c) w) (m + 1) (959 + 3 * c) (nI y) (m + 1) 26 = nI c := by rw [up_ne (by omega), up_ne (by omega), up_ne (by omega)]; exact p2
          rw [ca, Option.bind_some, hw0]
          simp only [gw_let, hw1, hw2, nI_clamp (show 957 + 3 * c < 2 ^ 31 by omega), nI_clamp (show 958 + 3 * c < 2 ^ 31 by omega), nI_clamp (show 959 + 3 * c < 2 ^ 31 by omega)]
          rw [if_pos ⟨nI_pos' (by omega), by omega⟩, if_pos ⟨nI_pos' (by omega), by omega⟩, if_pos ⟨nI_pos' (by omega), by omega⟩, r26, nI_1]
          have G1 := core_addT g' p2 hlt hl hy (dl := w) (μ' := gw_up (gw_up (gw_up (gw_up pu (A + 22 + 1) c (nI l)) (A + 22 + 2) c w) (A + 22 + 3) c (nI y)) (A + 22) 3 (nI (c + 1))) (s' := gw_up (gw_up (gw_up (gw_up s1 (m + 1) (957 + 3 * c) (nI l)) (m + 1) (958 + 3 * c) w) (m + 1) (959 + 3 * c) (nI y)) (m + 1) 26 (nI (c + 1))) (by rw [up_eq ⟨by omega, rfl⟩]) (by rw [up_ne (by omega), up_ne (by omega), up_ne (by omega), up_eq ⟨by omega, rfl⟩]) (by rw [up_ne (by omega), up_ne (by omega), up_eq ⟨by omega, rfl⟩]) (by rw [up_ne (by omega), up_eq ⟨by omega, rfl⟩]) (fun a j h1 h2 => by rw [up_ne (by omega), up_ne (by omega), up_ne (by omega), up_ne (by omega)]) (by rw [up_eq ⟨rfl, rfl⟩]) (by rw [up_ne (by omega), up_ne (by omega), up_ne (by omega), up_eq ⟨rfl, rfl⟩]) (by rw [up_ne (by omega), up_ne (by omega), up_eq ⟨rfl, rfl⟩]) (by rw [up_ne (by omega), up_eq ⟨rfl, rfl⟩]) (fun a j h1 h2 => by rw [up_ne (by omega), up_ne (by omega), up_ne (by omega), up_ne (by omega)])
          obtain ⟨μ', s', d1, d2, ⟨J3', J2', d3⟩, -⟩ := sim_doG (n := n) hn ⟨_, _, G1⟩ (by omega)
          rw [d1, d2]
          refine ⟨μ' (A + 22) 3, μ', s', true, rfl, ?_, Or.inr ⟨rfl, _, _, G_mono d3 (by omega) hb⟩⟩
          have : s' (m + 1) 26 = μ' (A + 22) 3 := G_rd d3 (i := 26) (c := 21) (j := 3) (by decide +kernel)
          rw [Option.bind_some, this]
theorem hs_send32 (hn : 1000 ≤ n) (hb : b + 8100 < 2 ^ 28) (g0 : Gs b (A + 1) m M s M s) (g1 : Gs b (A + 1) m pu s1 pu s1) (hk : F_X11_keep n m s = some s1) (hnow : ∀ c y, c < 82 → pu (A + 1 + c) y = M (A + 1 + c) y) {v : Int32} (hv : v = 1 ∨ v = 2) {y : Nat} (hy : y < 16) : HSP b A m M s pu s1 ((F_X3_guest n (A + 1) v M).bind (fun (r_8 : Nat) => (F_X0_awaits n r_8 (nI y) M).bind (fun (r_12 : Int32) => (if r_12 = 0 then (((F_X3_guest n (A + 1) v pu).bind (fun (r_19 : Nat) => (F_X0_await n r_19 (nI y) (pu (A + 1) 7) pu).bind (fun (μ_24 : gw_M) => (F_X3_dealOut n (A + 1) μ_24).bind (fun (μ_28 : gw_M) => some ((1 : Int32), μ_28))))).map (fun (z : Int32 × gw_M) => (z.1, z.2, true))) else some (0, M, false))))) (F_X11_send_32 n m v (nI y) s) := by
  obtain ⟨L3, L2, g⟩ := g0
  obtain ⟨K3, K2, g'⟩ := g1
  obtain ⟨z, hz⟩ := gg_ex g hv
  have hz4 := gg_lt hz
  have h15 : s1 (m + 1) 15 = s (m + 1) 15 := by
    rw [G_rd g' (i := 15) (c := 0) (j := 5) (by decide +kernel), G_rd g (i := 15) (c := 0) (j := 5) (by decide +kernel)]
    exact hnow 0 5 (by decide)
  have hz' := gg_same hz h15
  simp only [F_X11_send_32, (m_guestAt (n := n) hz).1, c_guest g hz, Option.bind_some, F_X0_awaits, c_has n _ (show y < 32 by omega), nI_add0, nI_clamp (show 58 + 162 * z < 2 ^ 31 by omega), m_has n _ (show y < 32 by omega), G_rd g (gd_g z hz4).1]
  rw [if_pos (show 0 ≤ nI (58 + 162 * z) ∧ 58 + 162 * z < 20813 from ⟨nI_pos' (by omega), by omega⟩)]
  cases bt (M (A + 1 + gg_c z) 2) y
  · rw [if_neg Bool.false_ne_true, if_pos rfl, if_pos rfl, hk, Option.bind_some, c_guest g' hz', Option.bind_some]
    obtain ⟨r1, s2, r2, r3⟩ := sim_pend (n := n) g' hz' hy
    rw [r1, r2, Option.bind_some, Option.bind_some]
    exact fin_do hn ⟨_, _, r3⟩ (by omega) hb 1
  · rw [if_pos rfl, if_neg (show ¬ (1 : Int32) = 0 by decide), if_neg (show ¬ (1 : Int32) = 0 by decide)]
    exact hs_no 0
theorem hs_send (hn : 1000 ≤ n) (hb : b + 8100 < 2 ^ 28) (g0 : Gs b (A + 1) m M s M s) (g1 : Gs b (A + 1) m pu s1 pu s1) (hk : F_X11_keep n m s = some s1) (hnow : ∀ c y, c < 82 → pu (A + 1 + c) y = M (A + 1 + c) y) (v x : Int32) : HSP b A m M s pu s1 (F_X10_send n A v x M pu) (F_X11_send n m v x s) := by
  obtain ⟨L3, L2, g⟩ := g0
  obtain ⟨hl, hl2⟩ := G_level g
  rcases gst n v M s with ⟨h1, -, h3⟩ | ⟨h1, -, h3⟩ | ⟨h1, h1', -, h3⟩
  · subst h1
    simp only [F_X10_send, F_X11_send, F_X10_isVector, c_within, m_isIn, Option.bind_some, h3]
    rw [if_pos trivial, if_neg (show ¬ (1 : Int32) = 0 by decide), if_neg (show ¬ (1 : Int32) = 0 by decide), if_pos (show ¬ (1 : Int32) = 2 by decide)]
    rcases isin_0 x 15 (by decide) with ⟨h, -⟩ | ⟨h, y, hy, rfl⟩
    · have h' : isin x 0 15 = 0 := h
      rw [h']; exact hs_no 0
    · have h' : isin (nI y) 0 15 = 1 := h
      rw [h', if_neg (show ¬ (1 : Int32) = 0 by decide), if_neg (show ¬ (1 : Int32) = 0 by decide)]
      exact hs_send32 hn hb ⟨_, _, g⟩ g1 hk hnow (Or.inl rfl) (by omega)
  · subst h1
    simp only [F_X10_send, F_X11_send, F_X10_isVector, c_within, m_isIn, Option.bind_some, h3, hl]
    rw [if_neg (show ¬ (2 : Int32) = 1 by decide), if_neg (show ¬ ¬ True from not_not_intro trivial), if_neg (show ¬ (1 : Int32) = 0 by decide)]
    rcases hl2 with c | c
    · rw [if_neg (not_not_intro c), if_neg (show ¬ (1 : Int32) = 0 by decide)]
      rcases isin_0 x 15 (by decide) with ⟨h, -⟩ | ⟨h, y, hy, rfl⟩
      · have h' : isin x 0 15 = 0 := h
        rw [h']; exact hs_no 0
      · have h' : isin (nI y) 0 15 = 1 := h
        rw [h', if_neg (show ¬ (1 : Int32) = 0 by decide), if_neg (show ¬ (1 : Int32) = 0 by decide), if_neg (show ¬ ¬ True from not_not_intro trivial), if_neg (show ¬ M (A + 1) 6 = 2 by rw [c]; decide)]
        exact hs_send32 hn hb ⟨_, _, g⟩ g1 hk hnow (Or.inr rfl) (by omega)
    · rw [if_pos (show ¬ M (A + 1) 6 = 1 by rw [c]; decide), if_pos trivial, if_neg (show ¬ ¬ True from not_not_intro trivial), if_pos c, ite_self]
      exact hs_no 0
  · simp only [F_X10_send, F_X11_send, h3, Option.bind_some]
    rw [if_neg h1, if_pos h1', if_pos trivial, if_pos trivial]
    exact hs_no 0
end MUT2B
