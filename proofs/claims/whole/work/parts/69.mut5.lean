/-! ===== entries told and cleared ===== -/
section MUT5
variable {b e m n : Nat} {K N : gw_M} {L3 L2 : List Nat} {μ s : gw_M}
theorem sim_tell0 (g : G b e m K N L3 L2 μ s) {p f r : Nat} (hp : p < 16) (hf : f ≤ 15) (hr : r ≤ 7) : ∃ μ' s', F_X3_tellEntry n e 0 (nI p) (nI f) (nI r) μ = some μ' ∧ F_X11_tellEntry n m 0 (nI p) (nI f) (nI r) s = some s' ∧ Gs b e m K N μ' s' := by
  obtain ⟨h, hh, h5, h15⟩ := G_hand g
  have hm1 : ¬ nI f = -1 := by rw [nI_m1 (by omega)]; exact id
  have ml := m_lay0 (n := n) hh h15 hp (to := nI f) (rt := nI r)
  rw [if_neg hm1] at ml
  have G1 := lay01_put g hh (t := 0) (by decide) h15 hp hf hr (fun c => absurd c (by decide))
  rw [show e + (44 + 15 * h + 4 * 0) = e + 37 + 15 * h + 7 by omega] at G1
  refine ⟨_, _, ?_, ?_, ⟨_, _, G1⟩⟩
  · rw [F_X3_tellEntry, if_neg (show ¬ ¬ (0 : Int32) = 0 by decide), c_inHand hh h5, Option.bind_some, c_put hp, Option.bind_some]
  · rw [F_X11_tellEntry, ml, Option.bind_some, if_pos (show ¬ (0 : Int32) = 2 by decide)]
theorem sim_tell1 (hn : 1000 ≤ n) (g : G b e m K N L3 L2 μ s) {p f r : Nat} (hp : p < 16) (hf : f ≤ 15) (hr : r ≤ 7) : ∃ μ' s', F_X3_tellEntry n e 1 (nI p) (nI f) (nI r) μ = some μ' ∧ F_X11_tellEntry n m 1 (nI p) (nI f) (nI r) s = some s' ∧ Gs b e m K N μ' s' := by
  obtain ⟨h, hh, h5, h15⟩ := G_hand g
  obtain ⟨t1, s', t2, t3⟩ := sim_put1 (n := n) hn g hh h15 hp hf hr
  refine ⟨_, s', ?_, ?_, t3⟩
  · rw [F_X3_tellEntry, if_pos (show ¬ (1 : Int32) = 0 by decide), if_neg (show ¬ ¬ (1 : Int32) = 1 by decide), t1, Option.bind_some]
  · rw [F_X11_tellEntry, t2, Option.bind_some, if_pos (show ¬ (1 : Int32) = 2 by decide)]
theorem st_na : ∀ p < 16, ∀ k < 9, na k (812 + p) = false := by decide +kernel
theorem sim_tell2 (hn : 1000 ≤ n) (g : G b e m K N L3 L2 μ s) (hb : b + 1 < 2 ^ 28) {p f r : Nat} (hp : p < 16) (hf : f ≤ 9) (hr : r ≤ 7) : ∃ μ' s', F_X3_tellEntry n e 2 (nI p) (nI f) (nI r) μ = some μ' ∧ F_X11_tellEntry n m 2 (nI p) (nI f) (nI r) s = some s' ∧ Gs (b + 1) e m K N μ' s' := by
  obtain ⟨h, hh, h5, h15⟩ := G_hand g
  obtain ⟨s', t2, t3⟩ := sim_lay2_put (n := n) hn g hb hh h15 hp hf hr
  have G1 := G_fr t3 (gd_t2 p hp).2.2.2.2 (v := -1) (gq_m1 (gd_q2 p hp).2.2.2.2 (by decide)) (st_na p hp)
  have hc : 0 ≤ nI p ∧ p < 16 := ⟨nI_pos' (by omega), hp⟩
  have tl : F_X4_tell n (e + 1) (nI p) (nI f) (nI r) μ = some (gw_up (gw_up (cput (e + 2) p (nI f) (nI r) μ) (e + 1) 3 (clr (μ (e + 1) 3) p)) (e + 7) p (-1)) := by
    have cp : F_X8_put n (e + 1 + 1) (nI p) (nI f) (nI r) μ = some (cput (e + 2) p (nI f) (nI r) μ) := c_put hp
    have r3 : cput (e + 2) p (nI f) (nI r) μ (e + 1) 3 = μ (e + 1) 3 := by
      unfold cput
      rw [up_ne (by omega), up_ne (by omega), up_ne (by omega), up_ne (by omega)]
    simp only [F_X4_tell, cp, Option.bind_some, gw_let, r3, nI_clamp (show p < 2 ^ 31 by omega), if_pos hc]
    rfl
  have xd : ∃ X, X = gw_up (gw_up (cput (e + 2) p (nI f) (nI r) μ) (e + 1) 3 (clr (μ (e + 1) 3) p)) (e + 7) p (-1) := ⟨_, rfl⟩
  obtain ⟨X, hX⟩ := xd
  have Xne : ∀ a j, e + 7 < a → X a j = μ a j := fun a j ha => by
    rw [hX]
    unfold cput
    rw [up_ne (by omega), up_ne (by omega), up_ne (by omega), up_ne (by omega), up_ne (by omega), up_ne (by omega)]
  have X5 : X e 5 = nI h := by
    rw [hX]
    unfold cput
    rw [up_ne (by omega), up_ne (by omega), up_ne (by omega), up_ne (by omega), up_ne (by omega), up_ne (by omega)]
    exact h5
  have un := c_unf1 (n := n) hn hh X5 (tOK_cg (G_tOK g hh) (fun p => Xne _ _ (by omega))) hp
  rw [tob_cg (μ := μ) (fun p => Xne _ _ (by omega))] at un
  have hcl : cuf e (tob e h p μ) X = gw_up (gw_up (cput (e + 2) p (nI f) (nI r) (cuf e (tob e h p μ) μ)) (e + 1) 3 (clr (μ (e + 1) 3) p)) (e + 7) p (-1) := by
    rw [hX, cuf_up (by omega), cuf_up (by omega), cuf_cput2]
  refine ⟨_, gw_up s' (m + 1) (812 + p) (-1), ?_, ?_, ⟨_, _, G1⟩⟩
  · rw [F_X3_tellEntry, if_pos (show ¬ (2 : Int32) = 0 by decide), if_pos (show ¬ (2 : Int32) = 1 by decide), tl, ← hX, Option.bind_some, un, Option.bind_some, hcl]
  · rw [F_X11_tellEntry, t2, Option.bind_some, if_neg (show ¬ ¬ (2 : Int32) = 2 by decide), show (812 : Int32) = nI 812 from rfl, nI_add, nI_clamp (by omega), if_pos ⟨nI_pos' (by omega), by omega⟩]
    rfl
theorem sim_drop0 (g : G b e m K N L3 L2 μ s) {p : Nat} (hp : p < 16) : ∃ μ' s', F_X3_dropEntry n e 0 (nI p) μ = some μ' ∧ F_X11_tellEntry n m 0 (nI p) (-1) 0 s = some s' ∧ Gs b e m K N μ' s' := by
  obtain ⟨h, hh, h5, h15⟩ := G_hand g
  have ml := m_lay0 (n := n) hh h15 hp (to := -1) (rt := 0)
  rw [if_pos rfl] at ml
  have G1 := lay01_drop g hh (t := 0) (by decide) h15 hp (fun c => absurd c (by decide))
  rw [show e + (44 + 15 * h + 4 * 0) = e + 37 + 15 * h + 7 by omega] at G1
  refine ⟨_, _, ?_, ?_, ⟨_, _, G1⟩⟩
  · rw [F_X3_dropEntry, if_neg (show ¬ ¬ (0 : Int32) = 0 by decide), c_inHand hh h5, Option.bind_some, c_dropT hp, Option.bind_some]
  · rw [F_X11_tellEntry, ml, Option.bind_some, if_pos (show ¬ (0 : Int32) = 2 by decide)]
theorem sim_drop1' (hn : 1000 ≤ n) (g : G b e m K N L3 L2 μ s) {p : Nat} (hp : p < 16) : ∃ μ' s', F_X3_dropEntry n e 1 (nI p) μ = some μ' ∧ F_X11_tellEntry n m 1 (nI p) (-1) 0 s = some s' ∧ Gs b e m K N μ' s' := by
  obtain ⟨h, hh, h5, h15⟩ := G_hand g
  obtain ⟨s', t2, t3⟩ := sim_drop1 (n := n) hn g hh h15 hp
  have cd : F_X8_drop n (e + 37 + 15 * h + 11) (nI p) μ = some (cdrop (e + (44 + 15 * h + 4 * 1)) p μ) := by
    rw [show e + 37 + 15 * h + 11 = e + (44 + 15 * h + 4 * 1) by omega]
    exact c_dropT hp
  refine ⟨_, s', ?_, ?_, t3⟩
  · rw [F_X3_dropEntry, if_pos (show ¬ (1 : Int32) = 0 by decide), if_neg (show ¬ ¬ (1 : Int32) = 1 by decide), c_inHand hh h5, Option.bind_some, cd, Option.bind_some, c_dropF hp, Option.bind_some]
  · rw [F_X11_tellEntry, t2, Option.bind_some, if_pos (show ¬ (1 : Int32) = 2 by decide)]
theorem sim_drop2 (hn : 1000 ≤ n) (g : G b e m K N L3 L2 μ s) {p : Nat} (hp : p < 16) : ∃ μ' s', F_X3_dropEntry n e 2 (nI p) μ = some μ' ∧ F_X11_tellEntry n m 2 (nI p) (-1) 0 s = some s' ∧ Gs b e m K N μ' s' := by
  obtain ⟨h, hh, h5, h15⟩ := G_hand g
  obtain ⟨s', t2, t3⟩ := sim_lay2_drop (n := n) hn g hh h15 hp
  have G1 := G_fr t3 (gd_t2 p hp).2.2.2.2 (v := -1) (gq_m1 (gd_q2 p hp).2.2.2.2 (by decide)) (st_na p hp)
  have hc : 0 ≤ nI p ∧ p < 16 := ⟨nI_pos' (by omega), hp⟩
  have tl : F_X4_untell n (e + 1) (nI p) μ = some (gw_up (cl2 e p (-1) 0 μ) (e + 7) p (-1)) := by
    have cp : F_X8_drop n (e + 1 + 1) (nI p) μ = some (cdrop (e + 2) p μ) := c_dropT hp
    have r3 : cdrop (e + 2) p μ (e + 1) 3 = μ (e + 1) 3 := by
      unfold cdrop
      rw [up_ne (by omega), up_ne (by omega)]
    simp only [F_X4_untell, cp, Option.bind_some, gw_let, r3, nI_clamp (show p < 2 ^ 31 by omega), if_pos hc]
    rfl
  have xd : ∃ X, X = gw_up (cl2 e p (-1) 0 μ) (e + 7) p (-1) := ⟨_, rfl⟩
  obtain ⟨X, hX⟩ := xd
  have Xne : ∀ a j, e + 7 < a → X a j = μ a j := fun a j ha => by
    rw [hX, up_ne (by omega), cl2_ne ⟨by omega, by omega, by omega⟩]
  have X5 : X e 5 = nI h := by
    rw [hX, up_ne (by omega), cl2_ne ⟨by omega, by omega, by omega⟩]
    exact h5
  have un := c_unf1 (n := n) hn hh X5 (tOK_cg (G_tOK g hh) (fun p => Xne _ _ (by omega))) hp
  rw [tob_cg (μ := μ) (fun p => Xne _ _ (by omega))] at un
  have hcl : cuf e (tob e h p μ) X = gw_up (cl2 e p (-1) 0 (cuf e (tob e h p μ) μ)) (e + 7) p (-1) := by
    rw [hX, cuf_up (by omega), cuf_cl2]
  refine ⟨_, gw_up s' (m + 1) (812 + p) (-1), ?_, ?_, ⟨_, _, G1⟩⟩
  · rw [F_X3_dropEntry, if_pos (show ¬ (2 : Int32) = 0 by decide), if_pos (show ¬ (2 : Int32) = 1 by decide), tl, ← hX, Option.bind_some, un, Option.bind_some, hcl]
  · rw [F_X11_tellEntry, t2, Option.bind_some, if_neg (show ¬ ¬ (2 : Int32) = 2 by decide), show (812 : Int32) = nI 812 from rfl, nI_add, nI_clamp (by omega), if_pos ⟨nI_pos' (by omega), by omega⟩]
    rfl
/-- who may tell -/
theorem may_tell (g : G b e m K N L3 L2 μ s) (v : Int32) : (F_X3_mayTell n e v μ = some 0 ∧ F_X11_canTell n m v s = some 0) ∨ (F_X3_mayTell n e v μ = some 1 ∧ F_X11_canTell n m v s = some 1 ∧ (v = 0 ∨ v = 1 ∨ v = 2)) := by
  obtain ⟨hl, hl2⟩ := G_level g
  simp only [F_X3_mayTell, F_X3_mayTell_12, F_X3_mayTell_25, F_X3_mayTell_30, F_X11_canTell, hl]
  by_cases h0 : v = 0
  · subst h0
    rcases hl2 with c | c
    · left
      rw [c]
      exact ⟨rfl, rfl⟩
    · right
      rw [c]
      exact ⟨rfl, rfl, Or.inl rfl⟩
  · by_cases h1 : v = 1
    · subst h1
      rcases hl2 with c | c
      · right
        rw [c]
        exact ⟨rfl, rfl, Or.inr (Or.inl rfl)⟩
      · left
        rw [c]
        exact ⟨rfl, rfl⟩
    · by_cases h2 : v = 2
      · subst h2
        right
        exact ⟨rfl, rfl, Or.inr (Or.inr rfl)⟩
      · left
        rw [if_pos h0, if_pos h1, if_pos h2, if_pos h0, if_pos h1]
        exact ⟨rfl, rfl⟩
end MUT5
section MUT5B
variable {b A m n : Nat} {M s pu s1 : gw_M}
theorem fin_op {b0 : Nat} {X Y : Option gw_M} {μ2 s2 : gw_M} (hn : 1000 ≤ n) (hX : X = some μ2) (hY : Y = some s2) (h : Gs b0 (A + 1) m pu s1 μ2 s2) (hb0 : b0 + 3 ≤ b + 8100) (hb : b + 8100 < 2 ^ 28) (rv : Int32) : HSP b A m M s pu s1 ((X.bind (fun (μ_25 : gw_M) => (F_X3_dealOut n (A + 1) μ_25).bind (fun (μ_3 : gw_M) => some (rv, μ_3)))).map (fun (z : Int32 × gw_M) => (z.1, z.2, true))) (Y.bind (fun (μ_25 : gw_M) => (F_X11_dealOut n m μ_25).bind (fun (μ_3 : gw_M) => some (rv, μ_3)))) := by
  rw [hX, hY]
  exact fin_do hn h hb0 hb rv
theorem hs_entry (hn : 1000 ≤ n) (hb : b + 8100 < 2 ^ 28) (g0 : Gs b (A + 1) m M s M s) (g1 : Gs b (A + 1) m pu s1 pu s1) (hk : F_X11_keep n m s = some s1) (v p t r : Int32) : HSP b A m M s pu s1 (F_X10_entry n A v p t r M pu) (F_X11_entry n m v p t r s) := by
  obtain ⟨L3, L2, g⟩ := g0
  obtain ⟨K3, K2, g'⟩ := g1
  have f1 : (1 : Int32).toInt = 1 := by decide
  have f7 : (7 : Int32).toInt = 7 := by decide
  rcases may_tell (n := n) g v with ⟨h1, h2⟩ | ⟨h1, h2, h3⟩
  · simp only [F_X10_entry, F_X11_entry, h1, h2, Option.bind_some, if_true, ite_self]
    exact hs_no 0
  · simp only [F_X10_entry, F_X11_entry, F_X11_entry_29, F_X10_isPage, F_X11_isPage, c_within, m_isIn, h1, h2, hk, Option.bind_some, show (16 : Int32) - 1 = 15 by decide, show (10 : Int32) - 1 = 9 by decide]
    rw [if_neg (show ¬ (1 : Int32) = 0 by decide), if_neg (show ¬ (1 : Int32) = 0 by decide), if_neg (show ¬ (1 : Int32) = 0 by decide)]
    rcases isin_0 p 15 (by decide) with ⟨h', -⟩ | ⟨h', q, hq, rfl⟩
    · have h'' : isin p 0 15 = 0 := h'
      rw [h'', if_pos rfl, if_pos rfl, if_pos rfl, ite_self]
      exact hs_no 0
    · have h'' : isin (nI q) 0 15 = 1 := h'
      rw [h'', if_neg (show ¬ (1 : Int32) = 0 by decide), if_neg (show ¬ (1 : Int32) = 0 by decide), if_neg (show ¬ (1 : Int32) = 0 by decide)]
      rcases isin_c r 1 7 with hr | ⟨hr, r1, r2⟩
      · rw [hr]
        simp only [not_true_eq_false, if_false, ite_self]
        exact hs_no 0
      · obtain ⟨y, hy, rfl⟩ := nI_of_rg (v := r) (n := 7) (by omega) (by omega)
        rw [hr, if_pos (show ¬ (1 : Int32) = 0 by decide), if_pos (show ¬ (1 : Int32) = 0 by decide)]
        rcases h3 with rfl | rfl | rfl
        · rw [if_pos (show ¬ (0 : Int32) = 2 by decide), if_pos (show ¬ (0 : Int32) = 2 by decide)]
          rcases isin_0 t 15 (by decide) with ⟨h', -⟩ | ⟨h', f, hf, rfl⟩
          · have h'' : isin t 0 15 = 0 := h'
            rw [h'', if_pos rfl, if_pos rfl]
            exact hs_no 0
          · have h'' : isin (nI f) 0 15 = 1 := h'
            rw [h'', if_neg (show ¬ (1 : Int32) = 0 by decide), if_neg (show ¬ (1 : Int32) = 0 by decide)]
            obtain ⟨μ2, s2, e1, e2, e3⟩ := sim_tell0 (n := n) g' (p := q) (f := f) (r := y) (by omega) hf hy
            exact fin_op hn e1 e2 e3 (by omega) hb 1
        · rw [if_pos (show ¬ (1 : Int32) = 2 by decide), if_pos (show ¬ (1 : Int32) = 2 by decide)]
          rcases isin_0 t 15 (by decide) with ⟨h', -⟩ | ⟨h', f, hf, rfl⟩
          · have h'' : isin t 0 15 = 0 := h'
            rw [h'', if_pos rfl, if_pos rfl]
            exact hs_no 0
          · have h'' : isin (nI f) 0 15 = 1 := h'
            rw [h'', if_neg (show ¬ (1 : Int32) = 0 by decide), if_neg (show ¬ (1 : Int32) = 0 by decide)]
            obtain ⟨μ2, s2, e1, e2, e3⟩ := sim_tell1 (n := n) hn g' (p := q) (f := f) (r := y) (by omega) hf hy
            exact fin_op hn e1 e2 e3 (by omega) hb 1
        · rw [if_neg (show ¬ ¬ (2 : Int32) = 2 by decide), if_neg (show ¬ ¬ (2 : Int32) = 2 by decide)]
          rcases isin_0 t 9 (by decide) with ⟨h', -⟩ | ⟨h', f, hf, rfl⟩
          · have h'' : isin t 0 9 = 0 := h'
            rw [h'', if_pos rfl, if_pos rfl]
            exact hs_no 0
          · have h'' : isin (nI f) 0 9 = 1 := h'
            rw [h'', if_neg (show ¬ (1 : Int32) = 0 by decide), if_neg (show ¬ (1 : Int32) = 0 by decide)]
            obtain ⟨μ2, s2, e1, e2, e3⟩ := sim_tell2 (n := n) hn g' (by omega) (p := q) (f := f) (r := y) (by omega) hf hy
            exact fin_op hn e1 e2 e3 (by omega) hb 1
theorem hs_clear (hn : 1000 ≤ n) (hb : b + 8100 < 2 ^ 28) (g0 : Gs b (A + 1) m M s M s) (g1 : Gs b (A + 1) m pu s1 pu s1) (hk : F_X11_keep n m s = some s1) (v p : Int32) : HSP b A m M s pu s1 (F_X10_clear n A v p M pu) (F_X11_clear n m v p s) := by
  obtain ⟨L3, L2, g⟩ := g0
  obtain ⟨K3, K2, g'⟩ := g1
  obtain ⟨h, hh, h5, h15⟩ := G_hand g
  rcases may_tell (n := n) g v with ⟨h1, h2⟩ | ⟨h1, h2, h3⟩
  · rw [F_X10_clear, F_X11_clear, h1, h2, Option.bind_some, Option.bind_some, if_pos rfl, if_pos rfl]
    exact hs_no 0
  · simp only [F_X10_clear, F_X11_clear, F_X10_isPage, F_X11_isPage, c_within, m_isIn, h1, h2, hk, Option.bind_some]
    rw [if_neg (show ¬ (1 : Int32) = 0 by decide), if_neg (show ¬ (1 : Int32) = 0 by decide)]
    rcases isin_0 p 15 (by decide) with ⟨h', -⟩ | ⟨h', q, hq, rfl⟩
    · have h'' : isin p 0 15 = 0 := h'
      rw [h'', if_pos rfl, if_pos rfl]
      exact hs_no 0
    · have h'' : isin (nI q) 0 15 = 1 := h'
      rw [h'', if_neg (show ¬ (1 : Int32) = 0 by decide), if_neg (show ¬ (1 : Int32) = 0 by decide)]
      have main : ∀ (a : Nat) (w : Int32), F_X3_table n (A + 1) v M = some a → F_X11_toOf n m v (nI q) s = some w → M (a + 1) q = w → (∃ μ' s', F_X3_dropEntry n (A + 1) v (nI q) pu = some μ' ∧ F_X11_tellEntry n m v (nI q) (-1) 0 s1 = some s' ∧ Gs b (A + 1) m pu s1 μ' s') → HSP b A m M s pu s1 ((F_X3_table n (A + 1) v M).bind (fun (r_11 : Nat) => (F_X8_has n r_11 (nI q) M).bind (fun (r_15 : Int32) => (if ¬ r_15 = 0 then (((F_X3_dropEntry n (A + 1) v (nI q) pu).bind (fun (μ_23 : gw_M) => (F_X3_dealOut n (A + 1) μ_23).bind (fun (μ_27 : gw_M) => some ((1 : Int32), μ_27)))).map (fun (z : Int32 × gw_M) => (z.1, z.2, true))) else some (0, M, false))))) ((F_X11_toOf n m v (nI q) s).bind (fun (r_11 : Int32) => (if ¬ r_11 = (-1) then (F_X11_tellEntry n m v (nI q) (-1) 0 s1).bind (fun (μ_21 : gw_M) => (F_X11_dealOut n m μ_21).bind (fun (μ_25 : gw_M) => some (1, μ_25))) else some (0, s)))) := by
        rintro a w t1 t2 t3 ⟨μ2, s2, e1, e2, e3⟩
        rw [t1, t2, Option.bind_some, Option.bind_some, c_tabHas (by omega), Option.bind_some, t3]
        by_cases hw : w = -1
        · rw [if_pos hw, if_neg (not_not_intro rfl), if_neg (not_not_intro hw)]
          exact hs_no 0
        · rw [if_neg hw, if_pos (show ¬ (1 : Int32) = 0 by decide), if_pos hw]
          exact fin_op hn e1 e2 e3 (by omega) hb 1
      have hcl : 0 ≤ nI h ∧ h < 3 := ⟨nI_pos' (by omega), hh⟩
      rcases h3 with rfl | rfl | rfl
      · refine main (A + 1 + 37 + 15 * h + 7) _ ?_ (m_to01 (n := n) (t := 0) hh h15 (by decide) (show q < 16 by omega)) ?_ (sim_drop0 g' (by omega))
        · simp only [F_X3_table, h5, nI_clamp (show h < 2 ^ 31 by omega), if_pos hcl, gw_let]
          rw [if_pos trivial]
        · rw [G_rd g (gd_e hh (t := 0) (by decide) (show q < 16 by omega)).1]
          congr 1
          omega
      · refine main (A + 1 + 37 + 15 * h + 11) _ ?_ (m_to01 (n := n) (t := 1) hh h15 (by decide) (show q < 16 by omega)) ?_ (sim_drop1' hn g' (by omega))
        · simp only [F_X3_table, h5, nI_clamp (show h < 2 ^ 31 by omega), if_pos hcl, gw_let]
          rfl
        · rw [G_rd g (gd_e hh (t := 1) (by decide) (show q < 16 by omega)).1]
          congr 1
          omega
      · refine main (A + 1 + 2) _ ?_ (m_to2 (n := n) (m := m) (show q < 16 by omega)) ?_ (sim_drop2 hn g' (by omega))
        · rfl
        · exact (G_rd g (gd_t2 q (by omega)).1).symm
end MUT5B
