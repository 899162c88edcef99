/-! ===== calls that are steps ===== -/
def HSP (b A m : Nat) (M s pu s1 : gw_M) (X : Option (Int32 × gw_M × Bool)) (Y : Option (Int32 × gw_M)) : Prop := ∃ r μ' s' bb, X = some (r, μ', bb) ∧ Y = some (r, s') ∧ ((bb = false ∧ μ' = M ∧ s' = s) ∨ (bb = true ∧ Gs (b + 8100) (A + 1) m pu s1 μ' s'))
theorem isin_c (v l t : Int32) : isin v l t = 0 ∨ (isin v l t = 1 ∧ l.toInt ≤ v.toInt ∧ v.toInt ≤ t.toInt) := by
  unfold isin
  by_cases h1 : v < l
  · rw [if_pos h1]; exact Or.inl rfl
  · rw [if_neg h1]
    by_cases h2 : t < v
    · rw [if_pos h2]; exact Or.inl rfl
    · rw [if_neg h2]
      rw [Int32.lt_iff_toInt_lt] at h1 h2
      exact Or.inr ⟨rfl, by omega, by omega⟩
theorem isin_no {v l t : Int32} (h : v.toInt < l.toInt ∨ t.toInt < v.toInt) : isin v l t = 0 := by
  unfold isin
  by_cases h1 : v < l
  · rw [if_pos h1]
  · rw [if_neg h1, if_pos]
    rw [Int32.lt_iff_toInt_lt] at h1 ⊢
    omega
theorem isin_yes {v l t : Int32} (h1 : l.toInt ≤ v.toInt) (h2 : v.toInt ≤ t.toInt) : isin v l t = 1 := by
  unfold isin
  rw [if_neg (by rw [Int32.lt_iff_toInt_lt]; omega), if_neg (by rw [Int32.lt_iff_toInt_lt]; omega)]
theorem gq_rng {b i : Nat} {v : Int32} {l t : Int} (hq : gd_q i = (l, t, 0)) (h1 : l ≤ v.toInt) (h2 : v.toInt ≤ t) : gq_r b i v := by
  unfold gq_r
  rw [hq]
  refine ⟨h1, ?_⟩
  show v.toInt ≤ t + ((0 : Nat) : Int) * b
  omega
theorem Gs_mono {b b' e m : Nat} {K N μ s : gw_M} (h : Gs b e m K N μ s) (hb : b ≤ b') (hb' : b' < 2 ^ 28) : Gs b' e m K N μ s := by
  obtain ⟨L3, L2, h⟩ := h
  exact ⟨L3, L2, G_mono h hb hb'⟩
theorem gst (n : Nat) (v : Int32) (μ s : gw_M) : (v = 1 ∧ F_X10_isGuest n v μ = some 1 ∧ F_X11_isGuest n v s = some 1) ∨ (v = 2 ∧ F_X10_isGuest n v μ = some 1 ∧ F_X11_isGuest n v s = some 1) ∨ (¬ v = 1 ∧ ¬ v = 2 ∧ F_X10_isGuest n v μ = some 0 ∧ F_X11_isGuest n v s = some 0) := by
  by_cases h1 : v = 1
  · subst h1
    exact Or.inl ⟨rfl, rfl, rfl⟩
  · by_cases h2 : v = 2
    · subst h2
      exact Or.inr (Or.inl ⟨rfl, rfl, rfl⟩)
    · refine Or.inr (Or.inr ⟨h1, h2, ?_, ?_⟩)
      · rw [F_X10_isGuest, if_neg h1, if_pos h2]
      · rw [F_X11_isGuest, m_isIn, Option.bind_some]
        rcases isin_c v 1 2 with h | ⟨h, a1, a2⟩
        · rw [h]
        · exfalso
          have e1 : (1 : Int32).toInt = 1 := by decide
          have e2 : (2 : Int32).toInt = 2 := by decide
          have : v.toInt = 1 ∨ v.toInt = 2 := by omega
          rcases this with c | c
          · exact h1 (Int32.toInt_inj.mp (c.trans e1.symm))
          · exact h2 (Int32.toInt_inj.mp (c.trans e2.symm))
section MUT1
variable {b A m n : Nat} {M s pu s1 : gw_M}
theorem sim_doG {e : Nat} {K N μ s : gw_M} (hn : 1000 ≤ n) (h : Gs b e m K N μ s) (hb : b + 3 < 2 ^ 28) : ∃ μ' s', F_X3_dealOut n e μ = some μ' ∧ F_X11_dealOut n m s = some s' ∧ Gs (b + 3) e m K N μ' s' ∧ ∀ a j, dfr e a j → μ' a j = μ a j := by
  obtain ⟨L3, L2, h⟩ := h
  obtain ⟨μ', s', a1, a2, a3, a4⟩ := sim_do (n := n) hn h hb
  exact ⟨μ', s', a1, a2, ⟨_, _, a3⟩, a4⟩
theorem hs_no (r : Int32) : HSP b A m M s pu s1 (some (r, M, false)) (some (r, s)) := ⟨r, M, s, false, rfl, rfl, Or.inl ⟨rfl, rfl, rfl⟩⟩
theorem fin_do {b0 : Nat} {μ2 s2 : gw_M} (hn : 1000 ≤ n) (h : Gs b0 (A + 1) m pu s1 μ2 s2) (hb0 : b0 + 3 ≤ b + 8100) (hb : b + 8100 < 2 ^ 28) (rv : Int32) : HSP b A m M s pu s1 (((F_X3_dealOut n (A + 1) μ2).bind (fun (μ_3 : gw_M) => some (rv, μ_3))).map (fun (z : Int32 × gw_M) => (z.1, z.2, true))) ((F_X11_dealOut n m s2).bind (fun (μ_3 : gw_M) => some (rv, μ_3))) := by
  obtain ⟨μ', s', a1, a2, a3, -⟩ := sim_doG (n := n) hn h (by omega)
  rw [a1, a2]
  exact ⟨rv, μ', s', true, rfl, rfl, Or.inr ⟨rfl, Gs_mono a3 hb0 hb⟩⟩
theorem hs_room (hn : 1000 ≤ n) (hb : b + 8100 < 2 ^ 28) (g1 : Gs b (A + 1) m pu s1 pu s1) (hk : F_X11_keep n m s = some s1) (v : Int32) : HSP b A m M s pu s1 (F_X10_room n A v M pu) (F_X11_room n m v s) := by
  simp only [F_X10_room, F_X11_room, c_within, m_isIn, Option.bind_some]
  rcases isin_c v 1 16 with h | ⟨h, a1, a2⟩
  · rw [h]; exact hs_no 0
  · rw [h, if_pos (by decide), if_pos (by decide), hk, Option.bind_some]
    have e1 : (1 : Int32).toInt = 1 := by decide
    have e2 : (16 : Int32).toInt = 16 := by decide
    obtain ⟨k, hk1, rfl⟩ := nI_of_rg (v := v) (n := 16) (by omega) (by omega)
    rw [nI_toInt (by omega)] at a1
    obtain ⟨L3, L2, g⟩ := g1
    obtain ⟨μ2, s2, r1, r2, r3⟩ := sim_room (n := n) hn g (r := k) (by omega) hk1
    rw [r1, r2, Option.bind_some, Option.bind_some]
    exact fin_do hn r3 (by omega) hb 1
theorem hs_foldAhead (hn : 1000 ≤ n) (hb : b + 8100 < 2 ^ 28) (g1 : Gs b (A + 1) m pu s1 pu s1) (hk : F_X11_keep n m s = some s1) : HSP b A m M s pu s1 (F_X10_foldAhead n A M pu) (F_X11_foldAhead n m s) := by
  obtain ⟨L3, L2, g⟩ := g1
  obtain ⟨r, μ2, s2, r1, r2, r3⟩ := sim_foldAhead (n := n) hn g (by omega)
  rw [F_X10_foldAhead, F_X11_foldAhead, hk, Option.bind_some, r1, r2, bi_some]
  exact fin_do hn r3 (by omega) hb r
theorem hs_join (hn : 1000 ≤ n) (hb : b + 8100 < 2 ^ 28) (g1 : Gs b (A + 1) m pu s1 pu s1) (hk : F_X11_keep n m s = some s1) : HSP b A m M s pu s1 (F_X10_join n A M pu) (F_X11_join n m s) := by
  obtain ⟨r, μ2, s2, r1, r2, r3, -⟩ := sim_j4 (n := n) hn 10 0 n n 0 pu s1 rfl (by omega) (by omega) g1
  have r1' : F_X3_joinFrames n (A + 1) pu = some (r, μ2) := r1
  have r2' : F_X11_join_8 n m n 0 0 s1 = _ := r2
  rw [F_X10_join, F_X11_join, hk, Option.bind_some, r1', r2', bi_some]
  exact fin_do hn r3 (by omega) hb r
theorem hs_trapPlace (hn : 1000 ≤ n) (hb : b + 8100 < 2 ^ 28) (g1 : Gs b (A + 1) m pu s1 pu s1) (hk : F_X11_keep n m s = some s1) (v : Int32) : HSP b A m M s pu s1 (F_X10_trapPlace n A v M pu) (F_X11_trapPlace n m v s) := by
  simp only [F_X10_trapPlace, F_X11_trapPlace, c_within, m_isIn, Option.bind_some]
  rcases isin_c v (-1) 23 with h | ⟨h, a1, a2⟩
  · rw [h]; exact hs_no 0
  · rw [h, if_pos (by decide), if_pos (by decide), hk, Option.bind_some]
    have e1 : (-1 : Int32).toInt = -1 := by decide
    have e2 : (23 : Int32).toInt = 23 := by decide
    obtain ⟨L3, L2, g⟩ := g1
    obtain ⟨h, hh, h5, h15⟩ := G_hand g
    have hga := (m_guestAt (n := n) (m := m) (s := s1) (gu := 2) (g := 1 + h) (Or.inr ⟨rfl, h, hh, h15, rfl⟩)).1
    have i143 : nI (58 + 162 * (1 + h)) + (143 : Int32) = nI (363 + 162 * h) := by rw [show (143 : Int32) = nI 143 from rfl, nI_add]; congr 1; omega
    rw [c_inHand hh h5, hga, Option.bind_some, Option.bind_some, i143, nI_clamp (by omega), if_pos ⟨nI_pos' (by omega), by omega⟩]
    obtain ⟨j1, j2, j3, j4, j5, j6⟩ := gd_i3 h hh
    have G1 := G_fr g j1 (v := v) (gq_rng j4 (by omega) (by omega)) (fun k hk => (tr_na h hh k hk).1)
    rw [show A + 1 + (37 + 15 * h) = A + 1 + 37 + 15 * h by omega] at G1
    exact fin_do hn ⟨L3, L2, G1⟩ (by omega) hb 1
theorem hs_want (hn : 1000 ≤ n) (hb : b + 8100 < 2 ^ 28) (g0 : Gs b (A + 1) m M s M s) (g1 : Gs b (A + 1) m pu s1 pu s1) (hk : F_X11_keep n m s = some s1) (v w : Int32) : HSP b A m M s pu s1 (F_X10_want n A v w M pu) (F_X11_want n m v w s) := by
  simp only [F_X10_want, F_X11_want, F_X11_want_37, c_within, m_isIn, Option.bind_some, hk]
  obtain ⟨L3, L2, g⟩ := g0
  obtain ⟨K3, K2, g'⟩ := g1
  obtain ⟨hl, hl2⟩ := G_level g
  by_cases h0 : v = 0
  · subst h0
    rw [if_pos rfl, if_neg (show ¬ (1 : Int32) = 0 by decide), show isin 0 0 1 = 1 by decide, if_neg (show ¬ (1 : Int32) = 0 by decide), if_pos (show ¬ (0 : Int32) = 1 by decide)]
    rcases isin_c w 0 255 with h | ⟨h, -⟩
    · rw [h]; exact hs_no 0
    · rw [h, if_pos (by decide), if_neg (show ¬ (1 : Int32) = 0 by decide), if_pos (by decide), if_pos (by decide)]
      have G1 := G_fr g' (gd_2 0 (by decide)).2.1 (v := w) (gq_any (k_any 0 (by decide)).2.2.1) (fun c hc => (k_na 0 (by decide) c hc).2.2.1)
      exact fin_do hn ⟨K3, K2, G1⟩ (by omega) hb 1
  · rw [if_neg h0]
    by_cases h1 : v = 1
    · subst h1
      rw [if_neg (not_not_intro rfl), show isin 1 0 1 = 1 by decide, if_neg (show ¬ (1 : Int32) = 0 by decide)]
      rw [if_neg (show ¬ ¬ (1 : Int32) = 1 by decide), hl]
      rcases hl2 with c | c
      · rw [if_neg (not_not_intro c), if_neg (show ¬ (1 : Int32) = 0 by decide), if_pos (show ¬ M (A + 1) 6 = 2 by rw [c]; decide)]
        rcases isin_c w 0 255 with h | ⟨h, -⟩
        · rw [h]; exact hs_no 0
        · rw [h, if_pos (by decide), if_neg (show ¬ (1 : Int32) = 0 by decide), if_pos (by decide), if_pos (by decide)]
          have G1 := G_fr g' (gd_2 1 (by decide)).2.1 (v := w) (gq_any (k_any 1 (by decide)).2.2.1) (fun c hc => (k_na 1 (by decide) c hc).2.2.1)
          exact fin_do hn ⟨K3, K2, G1⟩ (by omega) hb 1
      · rw [if_pos (show ¬ M (A + 1) 6 = 1 by rw [c]; decide), if_pos trivial, if_neg (show ¬ (1 : Int32) = 0 by decide), if_neg (not_not_intro c), ite_self]
        exact hs_no 0
    · rw [if_pos h1, if_pos trivial]
      have : isin v 0 1 = 0 := by
        rcases isin_c v 0 1 with h | ⟨h, a1, a2⟩
        · exact h
        · exfalso
          have e1 : (0 : Int32).toInt = 0 := by decide
          have e2 : (1 : Int32).toInt = 1 := by decide
          have : v.toInt = 0 ∨ v.toInt = 1 := by omega
          rcases this with c | c
          · exact h0 (Int32.toInt_inj.mp (c.trans e1.symm))
          · exact h1 (Int32.toInt_inj.mp (c.trans e2.symm))
      rw [this, if_pos rfl]
      exact hs_no 0
theorem hs_event (hn : 1000 ≤ n) (hb : b + 8100 < 2 ^ 28) (g1 : Gs b (A + 1) m pu s1 pu s1) (hk : F_X11_keep n m s = some s1) (v : Int32) : HSP b A m M s pu s1 (F_X10_event n A v M pu) (F_X11_event n m v s) := by
  simp only [F_X10_event, F_X11_event, F_X10_isEvent, c_within, m_isIn, Option.bind_some]
  rcases isin_0 v 7 (by decide) with ⟨h, -⟩ | ⟨h, k, hk7, rfl⟩
  · have h' : isin v 0 7 = 0 := h
    rw [h']; exact hs_no (-1)
  · have h' : isin (nI k) 0 7 = 1 := h
    rw [h', if_pos (show ¬ (1 : Int32) = 0 by decide), if_pos (show ¬ (1 : Int32) = 0 by decide), hk, Option.bind_some]
    obtain ⟨L3, L2, g⟩ := g1
    rcases (G_level g).2 with c | c
    · obtain ⟨r, μ2, s2, r1, r2, r3, -⟩ := sim_evO (n := n) hn g (by omega) c (k := k) (by omega)
      rw [if_pos (show ¬ pu (A + 1) 6 = 2 by rw [c]; decide), r1, r2, bi_some, bi_some, F_X10_event_50]
      exact fin_do hn ⟨_, _, r3⟩ (by omega) hb r
    · obtain ⟨r, μ2, s2, r1, r2, r3, -⟩ := sim_evI (n := n) hn g (by omega) c (k := k) (by omega)
      rw [if_neg (not_not_intro c), r1, r2, bi_some, bi_some, F_X10_event_50]
      exact fin_do hn ⟨_, _, r3⟩ (by omega) hb r
theorem hs_enter (hn : 1000 ≤ n) (hb : b + 8100 < 2 ^ 28) (g0 : Gs b (A + 1) m M s M s) (g1 : Gs b (A + 1) m pu s1 pu s1) (hk : F_X11_keep n m s = some s1) : HSP b A m M s pu s1 (F_X10_enter n A M pu) (F_X11_enter n m s) := by
  obtain ⟨L3, L2, g⟩ := g0
  obtain ⟨K3, K2, g'⟩ := g1
  obtain ⟨hl, hl2⟩ := G_level g
  simp only [F_X10_enter, F_X11_enter, hl]
  rcases hl2 with c | c
  · rw [if_pos c, if_pos (show ¬ M (A + 1) 6 = 2 by rw [c]; decide), hk, Option.bind_some]
    obtain ⟨μ2, s2, r1, r2, r3, -⟩ := sim_enter (n := n) g'
    rw [r1, r2, Option.bind_some, Option.bind_some]
    exact fin_do hn ⟨_, _, r3⟩ (by omega) hb 1
  · rw [if_neg (show ¬ M (A + 1) 6 = 1 by rw [c]; decide), if_neg (not_not_intro c)]
    exact hs_no 0
theorem gg_ex {gu : Int32} {L3 L2 : List Nat} {K N μ s : gw_M} {e : Nat} (g : G b e m K N L3 L2 μ s) (h : gu = 1 ∨ gu = 2) : ∃ z, gg_is s m gu z := by
  rcases h with h | h
  · exact ⟨0, Or.inl ⟨h, rfl⟩⟩
  · obtain ⟨k, hk, -, h15⟩ := G_hand g
    exact ⟨1 + k, Or.inr ⟨h, k, hk, h15, rfl⟩⟩
theorem gg_same {gu : Int32} {z : Nat} {s s1 : gw_M} (h : gg_is s m gu z) (h15 : s1 (m + 1) 15 = s (m + 1) 15) : gg_is s1 m gu z := by
  rcases h with h | ⟨h1, k, h2, h3, h4⟩
  · exact Or.inl h
  · exact Or.inr ⟨h1, k, h2, by rw [h15]; exact h3, h4⟩
theorem hs_open (hn : 1000 ≤ n) (hb : b + 8100 < 2 ^ 28) (g1 : Gs b (A + 1) m pu s1 pu s1) (hk : F_X11_keep n m s = some s1) (v w : Int32) (hw : w = 0 ∨ w = 1) : HSP b A m M s pu s1 (F_X10_open n A v w M pu) (F_X11_open n m v w s) := by
  simp only [F_X10_open, F_X11_open]
  obtain ⟨K3, K2, g⟩ := g1
  have yes : (v = 1 ∨ v = 2) → HSP b A m M s pu s1 (((F_X3_guest n (A + 1) v pu).bind (fun (r_8 : Nat) => gw_let (gw_up pu r_8 4 w) (fun (μ_12 : gw_M) => (F_X3_dealOut n (A + 1) μ_12).bind (fun (μ_14 : gw_M) => some ((1 : Int32), μ_14))))).map (fun (z : Int32 × gw_M) => (z.1, z.2, true))) ((F_X11_keep n m s).bind (fun (μ_7 : gw_M) => (F_X11_guestAt n m v μ_7).bind (fun (r_10 : Int32) => (if w = 0 then F_X11_open_33 n m (r_10 + (2 : Int32)) 0 μ_7 else F_X11_open_33 n m (r_10 + (2 : Int32)) 1 μ_7)))) := by
    intro hv
    obtain ⟨z, hz⟩ := gg_ex g hv
    have hz4 := gg_lt hz
    have i2 : nI (58 + 162 * z) + (2 : Int32) = nI (60 + 162 * z) := by rw [show (2 : Int32) = nI 2 from rfl, nI_add]; congr 1; omega
    rw [hk, Option.bind_some, (m_guestAt (n := n) hz).1, Option.bind_some, c_guest g hz, Option.bind_some, i2]
    rcases hw with rfl | rfl
    · rw [if_pos rfl, F_X11_open_33, nI_clamp (by omega), if_pos ⟨nI_pos' (by omega), by omega⟩]
      exact fin_do hn ⟨_, _, G_open g hz4 (v := 0) (by decide)⟩ (by omega) hb 1
    · rw [if_neg (by decide), F_X11_open_33, nI_clamp (by omega), if_pos ⟨nI_pos' (by omega), by omega⟩]
      exact fin_do hn ⟨_, _, G_open g hz4 (v := 1) (by decide)⟩ (by omega) hb 1
  rcases gst n v M s with ⟨h1, h2, h3⟩ | ⟨h1, h2, h3⟩ | ⟨h1, h1', h2, h3⟩
  · rw [h2, h3, Option.bind_some, Option.bind_some, if_pos (by decide), if_pos (by decide)]
    exact yes (Or.inl h1)
  · rw [h2, h3, Option.bind_some, Option.bind_some, if_pos (by decide), if_pos (by decide)]
    exact yes (Or.inr h1)
  · rw [h2, h3, Option.bind_some, Option.bind_some, if_neg (by decide), if_neg (by decide)]
    exact hs_no 0
theorem lv_is {gu : Int32} {L3 L2 : List Nat} {K N μ s : gw_M} {e : Nat} (g : G b e m K N L3 L2 μ s) (h : gu = μ e 6) : gu = 1 ∨ gu = 2 := by
  rw [h]
  exact (G_level g).2
theorem hs_finish (hn : 1000 ≤ n) (hb : b + 8100 < 2 ^ 28) (g0 : Gs b (A + 1) m M s M s) (g1 : Gs b (A + 1) m pu s1 pu s1) (hk : F_X11_keep n m s = some s1) (hnow : ∀ c y, c < 82 → pu (A + 1 + c) y = M (A + 1 + c) y) : HSP b A m M s pu s1 (F_X10_finish n A M pu) (F_X11_finish n m s) := by
  obtain ⟨L3, L2, g⟩ := g0
  obtain ⟨K3, K2, g'⟩ := g1
  have hl := (G_level g).1
  have hl' := (G_level g').1
  have h6 : pu (A + 1) 6 = M (A + 1) 6 := hnow 0 6 (by decide)
  obtain ⟨z, hz⟩ := gg_ex g (lv_is g (gu := M (A + 1) 6) rfl)
  have hz4 := gg_lt hz
  have h15 : s1 (m + 1) 15 = s (m + 1) 15 := by
    rw [G_rd g' (i := 15) (c := 0) (j := 5) (by decide +kernel), G_rd g (i := 15) (c := 0) (j := 5) (by decide +kernel)]
    exact hnow 0 5 (by decide)
  have hz' := gg_same hz h15
  have i1 : nI (58 + 162 * z) + (1 : Int32) = nI (59 + 162 * z) := by rw [nI_1]; congr 1; omega
  simp only [F_X10_finish, F_X11_finish, hl, c_guest g hz, (m_guestAt (n := n) hz).1, Option.bind_some, i1, nI_clamp (show 59 + 162 * z < 2 ^ 31 by omega), G_rd g (gd_g z hz4).2.1]
  rw [if_pos (show 0 ≤ nI (59 + 162 * z) ∧ 59 + 162 * z < 20813 from ⟨nI_pos' (by omega), by omega⟩)]
  by_cases h0 : M (A + 1 + gg_c z) 3 = 0
  · rw [if_neg (not_not_intro h0), if_neg (not_not_intro h0)]
    exact hs_no (-1)
  · rw [if_pos h0, if_pos h0, hk, Option.bind_some, hl', h6, c_guest g' hz', Option.bind_some]
    obtain ⟨r, μ2, s2, r1, r2, r3, -⟩ := sim_end (n := n) hn g' hz'
    rw [r1, r2, bi_some, bi_some]
    exact fin_do hn ⟨_, _, r3⟩ (by omega) hb r
theorem hs_hand (hn : 1000 ≤ n) (hb : b + 8100 < 2 ^ 28) (g0 : Gs b (A + 1) m M s M s) (g1 : Gs b (A + 1) m pu s1 pu s1) (hk : F_X11_keep n m s = some s1) (v : Int32) : HSP b A m M s pu s1 (F_X10_hand n A v M pu) (F_X11_hand n m v s) := by
  obtain ⟨L3, L2, g⟩ := g0
  obtain ⟨K3, K2, g'⟩ := g1
  obtain ⟨hl, hl2⟩ := G_level g
  have h15 : s (m + 1) 15 = M (A + 1) 5 := G_rd g (i := 15) (c := 0) (j := 5) (by decide +kernel)
  simp only [F_X10_hand, F_X11_hand, F_X10_isInnerGuest, c_within, m_isIn, Option.bind_some, hl, h15]
  rcases hl2 with c | c
  · rw [if_neg (not_not_intro c), if_pos (show ¬ M (A + 1) 6 = 2 by rw [c]; decide)]
    rcases isin_0 v 2 (by decide) with ⟨h, -⟩ | ⟨h, k, hk2, rfl⟩
    · have h' : isin v 0 2 = 0 := h
      rw [h']; exact hs_no 0
    · have h' : isin (nI k) 0 2 = 1 := h
      rw [h', if_neg (show ¬ (1 : Int32) = 0 by decide), if_neg (show ¬ (1 : Int32) = 0 by decide)]
      by_cases hv : nI k = M (A + 1) 5
      · rw [if_neg (not_not_intro hv), if_pos hv]
        exact hs_no 0
      · rw [if_pos hv, if_neg hv, hk, Option.bind_some]
        obtain ⟨μ2, s2, r1, r2, r3, -⟩ := sim_switch (n := n) hn g' (h' := k) (by omega)
        rw [r1, r2, Option.bind_some, Option.bind_some]
        exact fin_do hn r3 (by omega) hb 1
  · rw [if_pos (show ¬ M (A + 1) 6 = 1 by rw [c]; decide), if_neg (not_not_intro c), ite_self, ite_self]
    exact hs_no 0
theorem hs_slice (hn : 1000 ≤ n) (hb : b + 8100 < 2 ^ 28) (g1 : Gs b (A + 1) m pu s1 pu s1) (hk : F_X11_keep n m s = some s1) (v : Int32) : HSP b A m M s pu s1 (F_X10_slice n A v M pu) (F_X11_slice n m v s) := by
  simp only [F_X10_slice, F_X11_slice, c_within, m_isIn, Option.bind_some]
  rcases isin_c v 0 99 with h | ⟨h, a1, a2⟩
  · rw [h]; exact hs_no 0
  · rw [h, if_pos (by decide), if_pos (by decide), hk, Option.bind_some]
    have e1 : (0 : Int32).toInt = 0 := by decide
    have e2 : (99 : Int32).toInt = 99 := by decide
    obtain ⟨L3, L2, g⟩ := g1
    have G1 := G_fr g (i := 11) (c := 0) (j := 10) (by decide +kernel) (v := v) (gq_rng (l := 0) (t := 99) (by decide +kernel) (by omega) (by omega)) (by decide +kernel)
    exact fin_do hn ⟨_, _, G1⟩ (by omega) hb 1
theorem hs_forget (hn : 1000 ≤ n) (hb : b + 8100 < 2 ^ 28) (g1 : Gs b (A + 1) m pu s1 pu s1) (hk : F_X11_keep n m s = some s1) : HSP b A m M s pu s1 (F_X10_forget n A M pu) (F_X11_forget n m s) := by
  obtain ⟨L3, L2, g⟩ := g1
  obtain ⟨x, hx, x1, x2⟩ := G_n g (i := 21) (c := 1) (j := 4) (by decide +kernel) (n := 1023) (by decide +kernel)
  have x1' : pu (A + 2) 4 = nI x := x1
  rw [F_X10_forget, F_X11_forget, hk, Option.bind_some, x1', x2, c_bitCount n (by omega), m_many hn (by omega), Option.bind_some, Option.bind_some]
  have G1 := G_fr g (i := 21) (c := 1) (j := 4) (by decide +kernel) (v := 0) (gq_nI (l := 0) (k := 0) (n := 1023) (by decide +kernel) (by decide) (by decide) (by decide)) (by decide +kernel)
  exact fin_do hn ⟨_, _, G1⟩ (by omega) hb _
theorem hs_handler (hn : 1000 ≤ n) (hb : b + 8100 < 2 ^ 28) (g1 : Gs b (A + 1) m pu s1 pu s1) (hk : F_X11_keep n m s = some s1) (v w : Int32) : HSP b A m M s pu s1 (F_X10_handler n A v w M pu) (F_X11_handler n m v w s) := by
  obtain ⟨L3, L2, g⟩ := g1
  have e1 : (-1 : Int32).toInt = -1 := by decide
  have e2 : (23 : Int32).toInt = 23 := by decide
  have hna : ∀ r < 9, ∀ k < 9, na k (828 + r) = false := by decide +kernel
  have yes : ∀ R, R < 9 → HSP b A m M s pu s1 ((F_X10_within n w (-1) 23 M).bind (fun (r_6 : Int32) => (if ¬ r_6 = 0 then (((if 0 ≤ nI R ∧ (nI R).toNatClampNeg < 10 then gw_let (gw_up pu (A + 21) (nI R).toNatClampNeg w) (fun (μ_14 : gw_M) => (F_X3_dealOut n (A + 1) μ_14).bind (fun (μ_16 : gw_M) => some ((1 : Int32), μ_16))) else none)).map (fun (z : Int32 × gw_M) => (z.1, z.2, true))) else some (0, M, false)))) ((F_X11_isIn n w (-1) 23 s).bind (fun (r_6 : Int32) => (if ¬ r_6 = 0 then (F_X11_keep n m s).bind (fun (μ_12 : gw_M) => (if 0 ≤ ((828 : Int32) + nI R) ∧ ((828 : Int32) + nI R).toNatClampNeg < 20813 then gw_let (gw_up μ_12 (m + 1) ((828 : Int32) + nI R).toNatClampNeg w) (fun (μ_16 : gw_M) => (F_X11_dealOut n m μ_16).bind (fun (μ_18 : gw_M) => some (1, μ_18))) else none)) else some (0, s)))) := by
    intro R hR
    rw [c_within, m_isIn, Option.bind_some, Option.bind_some]
    rcases isin_c w (-1) 23 with h | ⟨h, a1, a2⟩
    · rw [h]; exact hs_no 0
    · rw [h, if_pos (show ¬ (1 : Int32) = 0 by decide), if_pos (show ¬ (1 : Int32) = 0 by decide), hk, Option.bind_some, show (828 : Int32) = nI 828 from rfl, nI_add, nI_clamp (show R < 2 ^ 31 by omega), nI_clamp (show 828 + R < 2 ^ 31 by omega), if_pos ⟨nI_pos' (by omega), by omega⟩, if_pos ⟨nI_pos' (by omega), by omega⟩]
      exact fin_do hn ⟨_, _, G_fr g (gd_hn R hR).1 (v := w) (gq_rng (gd_hn R hR).2 (by omega) (by omega)) (hna R hR)⟩ (by omega) hb 1
  simp only [F_X10_handler, F_X11_handler, F_X10_mayHaveHandler, F_X11_isHandled, F_X10_mayHaveHandler_22, F_X11_isHandled_22]
  by_cases h1 : v = 1
  · subst h1; exact yes 1 (by decide)
  · by_cases h4 : v = 4
    · subst h4; exact yes 4 (by decide)
    · by_cases h6 : v = 6
      · subst h6; exact yes 6 (by decide)
      · by_cases h8 : v = 8
        · subst h8; exact yes 8 (by decide)
        · rw [if_neg h1, if_neg h4, if_neg h6, if_pos h8]
          exact hs_no 0
end MUT1
