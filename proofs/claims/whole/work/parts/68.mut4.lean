/-! ===== touches, entries, passing, running, told by hand ===== -/
section MUT4
variable {b A m n : Nat} {M s pu s1 : gw_M}
theorem hs_touch (hn : 1000 ≤ n) (hb : b + 8100 < 2 ^ 28) (g1 : Gs b (A + 1) m pu s1 pu s1) (hk : F_X11_keep n m s = some s1) (v w x : Int32) : HSP b A m M s pu s1 (F_X10_touch n A v w x M pu) (F_X11_touch n m v w x s) := by
  obtain ⟨K3, K2, g⟩ := g1
  obtain ⟨h, hh, h5, h15⟩ := G_hand g
  simp only [F_X10_touch, F_X11_touch, F_X10_isPage, F_X11_isPage, F_X10_isWay, c_within, m_isIn, Option.bind_some]
  rcases isin_0 v 15 (by decide) with ⟨h', -⟩ | ⟨h', p, hp, rfl⟩
  · have h'' : isin v 0 15 = 0 := h'
    rw [h'']; exact hs_no (-1)
  · have h'' : isin (nI p) 0 15 = 1 := h'
    rw [h'', if_neg (show ¬ (1 : Int32) = 0 by decide), if_neg (show ¬ (1 : Int32) = 0 by decide)]
    rcases isin_0 w 2 (by decide) with ⟨h', -⟩ | ⟨h', y, hy, rfl⟩
    · have h'' : isin w 0 2 = 0 := h'
      rw [h'']; exact hs_no (-1)
    · have h'' : isin (nI y) 0 2 = 1 := h'
      rw [h'', if_neg (show ¬ (1 : Int32) = 0 by decide), if_neg (show ¬ (1 : Int32) = 0 by decide)]
      have yes : (y = 1 → ∃ q, q ≤ 9999 ∧ x = nI q) → HSP b A m M s pu s1 (((if ¬ (pu (A + 1) 6) = 2 then (gw_bi (F_X3_touchByOuter n (A + 1) (nI p) (nI y) x pu) (fun (r_15 : Int32) (μ_16 : gw_M) => F_X10_touch_77 n A r_15 μ_16)) else (gw_bi (F_X3_touchByInner n (A + 1) (nI p) (nI y) x pu) (fun (r_19 : Int32) (μ_20 : gw_M) => F_X10_touch_77 n A r_19 μ_20)))).map (fun (z : Int32 × gw_M) => (z.1, z.2, true))) (F_X11_touch_34 n m (nI p) (nI y) x s) := by
        intro hv
        rw [F_X11_touch_34, hk, Option.bind_some, F_X11_touchNow]
        have hl := (G_level g).1
        rcases (G_level g).2 with c | c
        · obtain ⟨r, μ2, s2, r1, r2, r3, -⟩ := sim_tO (n := n) hn g (by omega) hh h5 (p := p) (w := y) (by omega) (by omega) hv
          rw [if_pos (show ¬ pu (A + 1) 6 = 2 by rw [c]; decide), if_neg (show ¬ ¬ s1 (m + 1) 2 = 1 from not_not_intro (hl.trans c)), r1, r2, bi_some, bi_some, bi_some, F_X10_touch_77]
          exact fin_do hn r3 (by omega) hb r
        · obtain ⟨r, μ2, s2, r1, r2, r3, -⟩ := sim_tI (n := n) hn g (by omega) c hh h5 (p := p) (w := y) (by omega) (by omega) hv
          rw [if_neg (not_not_intro c), if_pos (show ¬ s1 (m + 1) 2 = 1 by rw [hl, c]; decide), r1, r2, bi_some, bi_some, bi_some, F_X10_touch_77]
          exact fin_do hn r3 (by omega) hb r
      by_cases h1 : nI y = 1
      · rw [if_neg (not_not_intro h1), if_neg (not_not_intro h1)]
        rcases isin_0 x 9999 (by decide) with ⟨h', -⟩ | ⟨h', q, hq, rfl⟩
        · have h'' : isin x 0 9999 = 0 := h'
          rw [h'']; exact hs_no (-1)
        · have h'' : isin (nI q) 0 9999 = 1 := h'
          rw [h'', if_pos (show ¬ (1 : Int32) = 0 by decide), if_pos (show ¬ (1 : Int32) = 0 by decide)]
          exact yes (fun _ => ⟨q, hq, rfl⟩)
      · rw [if_pos h1, if_pos h1]
        exact yes (fun c => absurd (by rw [c]; rfl) h1)
/-- passing -/
theorem sim_pass (hn : 1000 ≤ n) {N : Nat} (hN : N ≤ 200) {K Nn : gw_M} : ∀ (d k f1 f2 b0 t : Nat) (v : Int32) (μ s : gw_M), k + d = N → d < f1 → d < f2 → b0 + 17 * d < 2 ^ 28 → Gs b0 (A + 1) m K Nn μ s → μ (A + 1) 7 = nI t → t + d ≤ 99999 → ∃ r μ' s', F_X10_pass_28 n A f1 (nI N) v (nI k) μ = some (r, μ') ∧ F_X11_pass_34 n m f2 (nI N) v (nI k) s = some (r, s') ∧ Gs (b0 + 17 * d) (A + 1) m K Nn μ' s' := by
  intro d
  induction d with
  | zero =>
    intro k f1 f2 b0 t v μ s hk hf1 hf2 hb hG ht ht2
    obtain ⟨f1, rfl⟩ : ∃ z, f1 = z + 1 := ⟨f1 - 1, by omega⟩
    obtain ⟨f2, rfl⟩ : ∃ z, f2 = z + 1 := ⟨f2 - 1, by omega⟩
    refine ⟨v, μ, s, ?_, ?_, hG⟩
    · rw [F_X10_pass_28, if_pos (nI_le (by omega) (by omega))]
    · rw [F_X11_pass_34, if_pos (nI_le (by omega) (by omega))]
  | succ d ih =>
    intro k f1 f2 b0 t v μ s hk hf1 hf2 hb hG ht ht2
    obtain ⟨f1, rfl⟩ : ∃ z, f1 = z + 1 := ⟨f1 - 1, by omega⟩
    obtain ⟨f2, rfl⟩ : ∃ z, f2 = z + 1 := ⟨f2 - 1, by omega⟩
    obtain ⟨L3, L2, g⟩ := hG
    obtain ⟨r1, μ1, s1, a1, a2, a3, a4⟩ := sim_tick (n := n) hn g (by omega) (by omega) ht
    obtain ⟨μ2, s2, c1, c2, c3, c4⟩ := sim_do (n := n) hn a3 (by omega)
    obtain ⟨r, μ', s', z1, z2, z3⟩ := ih (k + 1) f1 f2 (b0 + 14 + 3) (t + 1) (v + r1) μ2 s2 (by omega) (by omega) (by omega) (by omega) ⟨_, _, c3⟩ (by rw [c4 _ _ (by unfold dfr; omega)]; exact a4) (by omega)
    refine ⟨r, μ', s', ?_, ?_, by rw [show b0 + 17 * (d + 1) = b0 + 14 + 3 + 17 * d by omega]; exact z3⟩
    · rw [F_X10_pass_28, if_neg (nI_ge (by omega) (by omega)), a1, bi_some]
      simp only [gw_let, c1, Option.bind_some, nI_1]
      exact z1
    · rw [F_X11_pass_34, if_neg (nI_ge (by omega) (by omega)), a2, bi_some]
      simp only [gw_let, c2, Option.bind_some, nI_1]
      exact z2
/-- running -/
theorem sim_run (hn : 1000 ≤ n) {N : Nat} (hN : N ≤ 200) {K Nn : gw_M} : ∀ (d k f1 f2 b0 t : Nat) (v : Int32) (μ s : gw_M), k + d = N → d < f1 → d < f2 → b0 + 40 * d + 1 < 2 ^ 28 → Gs b0 (A + 1) m K Nn μ s → μ (A + 1) 7 = nI t → t + d ≤ 99999 → ∃ r μ' s', F_X10_run_37 n A f1 (nI N) v (nI k) μ = some (r, μ') ∧ F_X11_run_24 n m f2 (nI N) v (nI k) s = some (r, s') ∧ Gs (b0 + 40 * d) (A + 1) m K Nn μ' s' := by
  intro d
  induction d with
  | zero =>
    intro k f1 f2 b0 t v μ s hk hf1 hf2 hb hG ht ht2
    obtain ⟨f1, rfl⟩ : ∃ z, f1 = z + 1 := ⟨f1 - 1, by omega⟩
    obtain ⟨f2, rfl⟩ : ∃ z, f2 = z + 1 := ⟨f2 - 1, by omega⟩
    obtain ⟨L3, L2, g⟩ := hG
    have g5 := G_rd g (i := 5) (c := 30) (j := 0) (by decide +kernel)
    have g6 := G_rd g (i := 6) (c := 30) (j := 1) (by decide +kernel)
    refine ⟨μ (A + 1 + 30) 0 + μ (A + 1 + 30) 1 - v, μ, s, ?_, ?_, ⟨_, _, g⟩⟩
    · rw [F_X10_run_37, if_pos (nI_le (by omega) (by omega))]
      rfl
    · rw [F_X11_run_24, if_pos (nI_le (by omega) (by omega)), F_X11_exitsAll, g5, g6]
      rfl
  | succ d ih =>
    intro k f1 f2 b0 t v μ s hk hf1 hf2 hb hG ht ht2
    obtain ⟨f1, rfl⟩ : ∃ z, f1 = z + 1 := ⟨f1 - 1, by omega⟩
    obtain ⟨f2, rfl⟩ : ∃ z, f2 = z + 1 := ⟨f2 - 1, by omega⟩
    obtain ⟨μ1, s1, a1, a2, a3, a4⟩ := sim_goOn (n := n) hn hG (by omega) (show t < 99999 by omega) ht
    obtain ⟨r, μ', s', z1, z2, z3⟩ := ih (k + 1) f1 f2 (b0 + 40) (t + 1) v μ1 s1 (by omega) (by omega) (by omega) (by omega) a3 a4 (by omega)
    refine ⟨r, μ', s', ?_, ?_, by rw [show b0 + 40 * (d + 1) = b0 + 40 + 40 * d by omega]; exact z3⟩
    · rw [F_X10_run_37, if_neg (nI_ge (by omega) (by omega)), a1, Option.bind_some]
      simp only [gw_let, nI_1]
      exact z1
    · rw [F_X11_run_24, if_neg (nI_ge (by omega) (by omega)), a2, Option.bind_some]
      simp only [gw_let, nI_1]
      exact z2
/-- whether so much time may go on -/
theorem may_go {e : Nat} {L3 L2 : List Nat} {K Nn μ s : gw_M} (g : G b e m K Nn L3 L2 μ s) {top : Nat} (htop : top ≤ 1000) (v : Int32) : (isin v 1 (nI top) = 0) ∨ (isin v 1 (nI top) = 1 ∧ ∃ N t, 1 ≤ N ∧ N ≤ top ∧ t ≤ 99999 ∧ v = nI N ∧ μ e 7 = nI t ∧ s (m + 1) 3 = nI t ∧ ((99999 < μ e 7 + v) = (99999 < t + N)) ∧ ((s (m + 1) 3 + v ≤ 99999) = (t + N ≤ 99999)) ∧ ((99999 < s (m + 1) 3 + v) = (99999 < t + N))) := by
  obtain ⟨t, ht, t1, t2⟩ := G_time g
  have e1 : (1 : Int32).toInt = 1 := by decide
  rcases isin_c v 1 (nI top) with h | ⟨h, a1, a2⟩
  · exact Or.inl h
  · rw [nI_toInt (by omega)] at a2
    obtain ⟨N, hN, rfl⟩ := nI_of_rg (v := v) (n := top) (by omega) (by omega)
    rw [nI_toInt (by omega)] at a1
    refine Or.inr ⟨h, N, t, by omega, hN, ht, rfl, t1, t2, ?_, ?_, ?_⟩
    · rw [t1, nI_add, show (99999 : Int32) = nI 99999 from rfl, nI_ltT (by omega) (by omega)]
    · rw [t2, nI_add, show (99999 : Int32) = nI 99999 from rfl, nI_leT (by omega) (by omega)]
    · rw [t2, nI_add, show (99999 : Int32) = nI 99999 from rfl, nI_ltT (by omega) (by omega)]
theorem hs_pass (hn : 1000 ≤ n) (hb : b + 8100 < 2 ^ 28) (g0 : Gs b (A + 1) m M s M s) (g1 : Gs b (A + 1) m pu s1 pu s1) (hk : F_X11_keep n m s = some s1) (hnow : ∀ c y, c < 82 → pu (A + 1 + c) y = M (A + 1 + c) y) (v : Int32) : HSP b A m M s pu s1 (F_X10_pass n A v M pu) (F_X11_pass n m v s) := by
  obtain ⟨L3, L2, g⟩ := g0
  simp only [F_X10_pass, F_X11_pass, F_X10_mayGo, F_X10_mayGo_28, c_within, m_isIn, Option.bind_some]
  rcases may_go g (top := 200) (by decide) v with h | ⟨h, N, t, h1, h2, h3, rfl, h5, h6, h7, h8, -⟩
  · have h' : isin v 1 200 = 0 := h
    rw [h']; exact hs_no (-1)
  · have h' : isin (nI N) 1 200 = 1 := h
    rw [h', if_neg (show ¬ (1 : Int32) = 0 by decide), if_neg (show ¬ (1 : Int32) = 0 by decide)]
    simp only [h7, h8]
    by_cases hg : t + N ≤ 99999
    · rw [if_neg (show ¬ 99999 < t + N by omega), if_pos hg, hk, Option.bind_some, Option.bind_some, if_pos (show ¬ (1 : Int32) = 0 by decide)]
      obtain ⟨r, μ', s', z1, z2, z3⟩ := sim_pass (n := n) hn h2 N 0 n n b t 0 pu s1 (by omega) (by omega) (by omega) (by omega) g1 ((hnow 0 7 (by decide)).trans h5) (by omega)
      have z1' : F_X10_pass_28 n A n (nI N) 0 0 pu = some (r, μ') := z1
      have z2' : F_X11_pass_34 n m n (nI N) 0 0 s1 = some (r, s') := z2
      rw [z1', z2']
      exact ⟨r, μ', s', true, rfl, rfl, Or.inr ⟨rfl, Gs_mono z3 (by omega) hb⟩⟩
    · rw [if_pos (show 99999 < t + N by omega), if_neg hg, Option.bind_some, if_neg (not_not_intro rfl)]
      exact hs_no (-1)
theorem hs_run (hn : 1000 ≤ n) (hb : b + 8100 < 2 ^ 28) (g0 : Gs b (A + 1) m M s M s) (g1 : Gs b (A + 1) m pu s1 pu s1) (hk : F_X11_keep n m s = some s1) (hnow : ∀ c y, c < 82 → pu (A + 1 + c) y = M (A + 1 + c) y) (v : Int32) : HSP b A m M s pu s1 (F_X10_run n A v M pu) (F_X11_run n m v s) := by
  obtain ⟨L3, L2, g⟩ := g0
  have g1' := g1
  obtain ⟨K3, K2, g'⟩ := g1'
  simp only [F_X10_run, F_X11_run, F_X10_mayGo, F_X10_mayGo_28, F_X11_canGo, F_X11_canGo_26, c_within, m_isIn, Option.bind_some]
  rcases may_go g (top := 200) (by decide) v with h | ⟨h, N, t, h1, h2, h3, rfl, h5, h6, h7, -, h9⟩
  · have h' : isin v 1 200 = 0 := h
    rw [h']; exact hs_no (-1)
  · have h' : isin (nI N) 1 200 = 1 := h
    rw [h', if_neg (show ¬ (1 : Int32) = 0 by decide), if_neg (show ¬ (1 : Int32) = 0 by decide)]
    simp only [h7, h9]
    by_cases hg : t + N ≤ 99999
    · rw [if_neg (show ¬ 99999 < t + N by omega), hk, Option.bind_some, Option.bind_some, if_pos (show ¬ (1 : Int32) = 0 by decide), if_pos (show ¬ (1 : Int32) = 0 by decide)]
      have g5 := G_rd g' (i := 5) (c := 30) (j := 0) (by decide +kernel)
      have g6 := G_rd g' (i := 6) (c := 30) (j := 1) (by decide +kernel)
      obtain ⟨r, μ', s', z1, z2, z3⟩ := sim_run (n := n) hn h2 N 0 n n b t (pu (A + 1 + 30) 0 + pu (A + 1 + 30) 1) pu s1 (by omega) (by omega) (by omega) (by omega) g1 ((hnow 0 7 (by decide)).trans h5) (by omega)
      have z1' : F_X10_run_37 n A n (nI N) (pu (A + 26 + 5) 0 + pu (A + 26 + 5) 1) 0 pu = some (r, μ') := z1
      have z2' : F_X11_run_24 n m n (nI N) (pu (A + 1 + 30) 0 + pu (A + 1 + 30) 1) 0 s1 = some (r, s') := z2
      simp only [F_X2_allExits, F_X11_exitsAll, Option.bind_some, z1', g5, g6, z2']
      exact ⟨r, μ', s', true, rfl, rfl, Or.inr ⟨rfl, Gs_mono z3 (by omega) hb⟩⟩
    · rw [if_pos (show 99999 < t + N by omega), Option.bind_some, Option.bind_some, if_neg (not_not_intro rfl), if_neg (not_not_intro rfl)]
      exact hs_no (-1)
end MUT4
