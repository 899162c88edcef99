/-! ===== dealt out ===== -/
section DEAL2
variable {b e m n h : Nat} {K N : gw_M} {L3 L2 L : List Nat} {μ s : gw_M}
/-- cells that dealing out leaves -/
def dfr (e a j : Nat) : Prop := ¬ (a = e ∧ j = 6) ∧ ¬ (a = e + 13 ∧ j = 4) ∧ (a < e + 25 ∨ e + 36 < a) ∧ a ≠ e + 12 ∧ a ≠ e + 38 ∧ a ≠ e + 53 ∧ a ≠ e + 68
theorem dfr_g {a j g : Nat} (hg : g < 4) (h : dfr e a j) : a ≠ e + gg_c g := by
  have := gg_rg g hg
  unfold dfr at h
  omega
theorem gg_c1 (h : Nat) : gg_c (1 + h) = 38 + 15 * h := by
  unfold gg_c
  rw [if_neg (by omega)]
  omega
theorem sim_do34 (hn : 1000 ≤ n) (hG : G b e m K N L3 L2 μ s) (hb : b + 1 < 2 ^ 28) (hh : h < 3) (h5 : μ e 5 = nI h) : ∃ μ' s', F_X3_dealOut_49 n e μ = some μ' ∧ F_X11_dealOut_34 n m s = some s' ∧ G (b + 1) e m K N L3 L2 μ' s' ∧ ∀ a j, dfr e a j → μ' a j = μ a j := by
  obtain ⟨hl, hl2⟩ := G_level hG
  have h15 := G_s15 hG h5
  have hg : gg_is s m 2 (1 + h) := Or.inr ⟨rfl, h, hh, h15, rfl⟩
  simp only [F_X3_dealOut_49, F_X11_dealOut_34, hl]
  by_cases h2 : μ e 6 = 2
  · rw [if_neg (not_not_intro h2), if_neg (not_not_intro h2)]
    simp only [F_X3_dealOutToInner, c_inHand hh h5, Option.bind_some, c_ready hn, m_nextOf hn hG hg]
    rw [show e + 37 + 15 * h + 1 = e + gg_c (1 + h) by rw [gg_c1]; omega]
    rcases nxt_rg (o := μ (e + gg_c (1 + h)) 4) (x := μ (e + gg_c (1 + h)) 2) (y := μ (e + gg_c (1 + h)) 3) with hx | ⟨v, hv, hx, hbt⟩
    · rw [hx, if_pos rfl, if_pos rfl]
      exact ⟨μ, s, rfl, rfl, G_mono hG (by omega) hb, fun _ _ _ => rfl⟩
    · have hne : ¬ nI v = -1 := by rw [nI_m1 (by omega)]; exact id
      obtain ⟨s', k1, k2⟩ := sim_take (n := n) hG hb hg (k := 1) rfl (by decide) hv hbt
      rw [hx, if_neg hne, if_neg hne, k1]
      refine ⟨ctk e (1 + h) 1 v μ, s', ?_, rfl, k2, fun a j ha => ?_⟩
      · have := c_take (n := n) (e := e) (μ := μ) (gu := 2) (g := 1 + h) (k := 1) (v := v) (by omega) rfl (by decide) hv (Y := fun z => some z)
        rw [this]; rfl
      · have h1 := dfr_g (g := 1 + h) (by omega) ha
        unfold dfr at ha
        exact ctk_ne (fun c => h1 c.1) (by omega)
  · rw [if_pos h2, if_pos h2]
    exact ⟨μ, s, rfl, rfl, G_mono hG (by omega) hb, fun _ _ _ => rfl⟩
theorem sim_do28 (hn : 1000 ≤ n) (hG : G b e m K N L3 L2 μ s) (hb : b + 2 < 2 ^ 28) (hh : h < 3) (h5 : μ e 5 = nI h) {v : Nat} (hv : v < 16) (hbt : bt (μ (e + 12) 2) v = true) : ∃ μ' s', F_X3_dealOut_28 n e (nI v) μ = some μ' ∧ F_X11_dealOut_28 n m (nI v) s = some s' ∧ G (b + 2) e m K N L3 L2 μ' s' ∧ ∀ a j, dfr e a j → μ' a j = μ a j := by
  have hg : gg_is s m 1 0 := Or.inl ⟨rfl, rfl⟩
  obtain ⟨s1, k1, k2⟩ := sim_take (n := n) hG (by omega) hg (k := 0) rfl (by decide) hv hbt
  have h51 : ctk e 0 0 v μ e 5 = nI h := by
    rw [ctk_ne (by show ¬ (e = e + 12 ∧ _); omega) (by omega)]; exact h5
  obtain ⟨μ', s', z1, z2, z3, z4⟩ := sim_do34 (n := n) hn k2 (by omega) hh h51
  refine ⟨μ', s', ?_, ?_, z3, fun a j ha => ?_⟩
  · have := c_take (n := n) (e := e) (μ := μ) (gu := 1) (g := 0) (k := 0) (v := v) (by omega) rfl (by decide) hv (Y := fun μ_6 => F_X3_dealOut_49 n e μ_6)
    have t : F_X3_dealOut_28 n e (nI v) μ = F_X3_dealOut_49 n e (ctk e 0 0 v μ) := this
    rw [t]; exact z1
  · rw [F_X11_dealOut_28, k1, Option.bind_some]; exact z2
  · rw [z4 a j ha]
    unfold dfr at ha
    exact ctk_ne (by show ¬ (a = e + 12 ∧ _); omega) (by omega)
theorem sim_do (hn : 1000 ≤ n) (hG : G b e m K N L3 L2 μ s) (hb : b + 3 < 2 ^ 28) : ∃ μ' s', F_X3_dealOut n e μ = some μ' ∧ F_X11_dealOut n m s = some s' ∧ G (b + 3) e m K N L3 L2 μ' s' ∧ ∀ a j, dfr e a j → μ' a j = μ a j := by
  obtain ⟨h, hh, h5, h15⟩ := G_hand hG
  obtain ⟨hl, hl2⟩ := G_level hG
  have hg : gg_is s m 1 0 := Or.inl ⟨rfl, rfl⟩
  have hm := m_nextOf (n := n) hn hG hg
  have hm' : F_X11_nextOf n m 1 s = some (nxt (μ (e + 12) 4) (μ (e + 12) 2) (μ (e + 12) 3)) := hm
  simp only [F_X3_dealOut, F_X11_dealOut, c_ready hn, hm', Option.bind_some, hl]
  rcases nxt_rg (o := μ (e + 12) 4) (x := μ (e + 12) 2) (y := μ (e + 12) 3) with hx | ⟨v, hv, hx, hbt⟩
  · rw [hx, if_pos rfl, if_pos rfl]
    obtain ⟨μ', s', z1, z2, z3, z4⟩ := sim_do34 (n := n) hn hG (by omega) hh h5
    exact ⟨μ', s', z1, z2, G_mono z3 (by omega) hb, z4⟩
  · have hne : ¬ nI v = -1 := by rw [nI_m1 (by omega)]; exact id
    rw [hx, if_neg hne, if_neg hne]
    by_cases h2 : μ e 6 = 2
    · rw [if_neg (not_not_intro h2), if_neg (not_not_intro h2)]
      obtain ⟨k1, s1, k2, k3⟩ := sim_deal (n := n) hn hG (by omega) (R := 6) (by decide) (by decide) (nI v)
      have k1' : F_X3_dealToOuter n e 6 (nI v) μ = _ := k1
      have k2' : F_X11_deal n m 6 (nI v) s = _ := k2
      obtain ⟨μ', s', z1, z2, z3, z4⟩ := sim_do28 (n := n) hn k3 (by omega) hh (by rw [cdl_ne ⟨by omega, by omega, by omega⟩]; exact h5) hv (by rw [cdl_ne ⟨by omega, by omega, by omega⟩]; exact hbt)
      rw [k1', k2', Option.bind_some, Option.bind_some]
      refine ⟨μ', s', z1, z2, z3, fun a j ha => ?_⟩
      rw [z4 a j ha]
      unfold dfr at ha
      exact cdl_ne ⟨by omega, by omega, by omega⟩
    · rw [if_pos h2, if_pos h2]
      obtain ⟨μ', s', z1, z2, z3, z4⟩ := sim_do28 (n := n) hn hG (by omega) hh h5 hv hbt
      exact ⟨μ', s', z1, z2, G_mono z3 (by omega) hb, z4⟩
/-- ended -/
theorem sim_end (hn : 1000 ≤ n) (hG : G b e m K N L3 L2 μ s) {gu : Int32} {g : Nat} (hg : gg_is s m gu g) : ∃ r μ' s', F_X0_endService n (e + gg_c g) μ = some (r, μ') ∧ F_X11_endNow n m gu s = some (r, s') ∧ G b e m K N L3 L2 μ' s' ∧ ∀ a j, ¬ (a = e + gg_c g ∧ j = 3) → μ' a j = μ a j := by
  have hg4 := gg_lt hg
  obtain ⟨r1, r2, -⟩ := gd_g g hg4
  have hc : 0 ≤ nI (59 + 162 * g) ∧ 59 + 162 * g < 20813 := ⟨nI_pos' (by omega), by omega⟩
  simp only [F_X0_endService, F_X11_endNow, (m_guestAt (n := n) hg).1, Option.bind_some, nI_1, show 58 + 162 * g + 1 = 59 + 162 * g by omega, nI_clamp (show 59 + 162 * g < 2 ^ 31 by omega), if_pos hc, m_greatest hn, c_greatest hn, gw_let, G_rd hG r2]
  rcases gtop_rg (μ (e + gg_c g) 3) 16 with hx | ⟨v, hv, hx, hbt⟩
  · rw [hx, if_pos rfl, if_pos rfl]
    exact ⟨-1, μ, s, rfl, rfl, hG, fun _ _ _ => rfl⟩
  · have hne : ¬ nI v = -1 := by rw [nI_m1 (by omega)]; exact id
    rw [hx, if_neg hne, if_neg hne]
    exact ⟨nI v, _, _, rfl, rfl, G_fr hG r2 (gq_any (g_any g hg4).2) (fun c hc => (g_na g hg4 c hc).1), fun a j ha => up_ne ha⟩
theorem sim_enter (hG : G b e m K N L3 L2 μ s) : ∃ μ' s', F_X3_enterInner n e μ = some μ' ∧ F_X11_enterNow n m s = some s' ∧ G b e m K N L3 L2 μ' s' ∧ ∀ a j, ¬ (a = e ∧ (j = 6 ∨ j = 11)) → μ' a j = μ a j := by
  have h11 : s (m + 1) 11 = μ e 10 := G_rd hG (i := 11) (c := 0) (j := 10) (by decide +kernel)
  have G1 : G b e m K N L3 L2 (gw_up μ e 6 2) (gw_up s (m + 1) 2 2) := G_fr hG (i := 2) (c := 0) (j := 6) (by decide +kernel) (gq_lv (k := 2) (by decide) (by decide)) (by decide +kernel)
  have G2 : G b e m K N L3 L2 (gw_up (gw_up μ e 6 2) e 11 (μ e 10)) (gw_up (gw_up s (m + 1) 2 2) (m + 1) 12 (μ e 10)) := G_fr G1 (i := 12) (c := 0) (j := 11) (by decide +kernel) (gq_any (by decide +kernel)) (by decide +kernel)
  refine ⟨_, _, rfl, rfl, ?_, fun a j ha => ?_⟩
  · rw [up_ne (j' := 10) (by omega), up_ne (j' := 11) (by omega), h11]
    exact G2
  · rw [up_ne (by omega), up_ne (by omega)]
theorem G_hs (hG : G b e m K N L3 L2 μ s) (hF : ∀ p, p < 16 → s (m + 1) (754 + 2 * p) = -1) {h' : Nat} (hh : h' < 3) : G b e m K N L3 L2 (gw_up μ e 5 (nI h')) (gw_up s (m + 1) 15 (nI h')) := by
  have X := GX_up (GX_of hG) (i := 15) (c := 0) (j := 5) (by decide +kernel) (v := nI h') (gq_nI (l := 0) (n := 2) (by decide +kernel) (by decide) (by omega) (by decide))
  refine GX_end (E := fun k => decide (k = 8)) (GX_E X (fun k hk hE => ?_)) (fun _ => rfl) (fun _ => rfl) (fun k hk hE => ?_)
  · have hk8 : k ≠ 8 := by simpa using hE
    have : ∀ k < 9, k ≠ 8 → na k 15 = false := by decide +kernel
    simp only [this k hk hk8, Bool.or_false]
  · have hk8 : k = 8 := by simpa using hE
    subst hk8
    obtain ⟨f1, f2⟩ := G_q hG 8 (by decide)
    refine ⟨fun h2 hh2 hn z hz hfz => ?_, by rw [up_ne (by omega)]; exact f2⟩
    rw [up_ne (by omega)] at hfz
    exact absurd (hF z hz) hfz
theorem sim_switch (hn : 1000 ≤ n) (hG : G b e m K N L3 L2 μ s) {h' : Nat} (hh : h' < 3) : ∃ μ' s', F_X3_switchTo n e (nI h') μ = some μ' ∧ F_X11_handNow n m (nI h') s = some s' ∧ Gs b e m K N μ' s' ∧ ∀ a j, ¬ (a = e ∧ (j = 5 ∨ j = 12)) → ¬ (a = e + 9) → ¬ (a = e + 10) → μ' a j = μ a j := by
  have hL := (G_q hG 4 (by decide)).1
  obtain ⟨s1, e1, u1⟩ := m_unfoldAll (n := n) (m := m) hn (G_q hG 0 (by decide)) hL
  have G1 := sim_uf hG u1 (cuf_is _ _ _)
  have G2 := G_hs G1 (fun p hp => by rw [(u1.2.1 p hp).1]; rfl) hh
  have G3 : G b e m K N _ L2 (gw_up (gw_up (cuf e (fun _ => true) μ) e 5 (nI h')) e 12 (-1)) (gw_up (gw_up s1 (m + 1) 15 (nI h')) (m + 1) 16 (-1)) := G_fr G2 (i := 16) (c := 0) (j := 12) (by decide +kernel) (gq_m1 (n := 15) (by decide +kernel) (by decide)) (by decide +kernel)
  obtain ⟨μ1, c1, c2⟩ := c_dropAll (n := n) (e := e) (μ := gw_up μ e 5 (nI h'))
  have c3 := cuf_of c2
  rw [cuf_up (by omega)] at c3
  refine ⟨_, _, ?_, ?_, ⟨_, _, G3⟩, fun a j h1 h2 h3 => ?_⟩
  · simp only [F_X3_switchTo, gw_let, c1, Option.bind_some, c3]
  · simp only [F_X11_handNow, gw_let, e1, Option.bind_some]
  · rw [up_ne (by omega), up_ne (by omega), cuf_ne (by omega)]
end DEAL2
