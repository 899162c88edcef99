/-! ===== the outer guest touches ===== -/
section TOUCH3
variable {b e m n h : Nat} {K N : gw_M} {L3 L2 L : List Nat} {μ s : gw_M}
theorem sim_127 (hG : G b e m K N L3 L2 μ s) {p f w : Nat} (hp : p < 16) (hf : f ≤ 9) (hw : w < 3) {v : Int32} (hv : w = 1 → ∃ x, x ≤ 9999 ∧ v = nI x) (hto : μ (e + 3) p = nI f) (hgv : bt (gr_2 (s (m + 1)) p) w = true) (d : Int32) : ∃ r μ' s', F_X3_touchByOuter_101 n e (nI p) (nI w) v μ = some (r, μ') ∧ F_X11_touchOuter_54 n m (nI p) (nI w) v d s = some (r, s') ∧ G b e m K N L3 L2 μ' s' ∧ (∀ a j, tf e a j → μ' a j = μ a j) ∧ (r = -4 ∨ ∃ x, x ≤ 9999 ∧ r = nI x) := by
  obtain ⟨x, μ1, s1, hx, a1, a2, a3, a4⟩ := sim_doAt (n := n) hG hf hw hv
  refine ⟨nI x, μ1, s1, ?_, ?_, a3, fun a j ha => by unfold tf at ha; exact a4 a j (by omega) (by omega), Or.inr ⟨x, hx, rfl⟩⟩
  · have hne : ¬ μ (e + 2 + 1) p = -1 := by show ¬ μ (e + 3) p = -1; rw [hto, nI_m1 (by omega)]; exact id
    rw [F_X3_touchByOuter_101, c_tabHas hp, Option.bind_some, if_neg hne, if_pos (by decide), F_X3_touchByOuter_127, if_pos ⟨nI_pos' (by omega), by rw [nI_clamp (by omega)]; exact hp⟩, nI_clamp (by omega), hto, a1, bi_some]
  · rw [F_X11_touchOuter_54, m_gives2 (G_q hG 0 (by decide)) hp (by omega), hgv, Option.bind_some, if_pos rfl, if_pos (by decide), m_to2 hp, G_rd hG (gd_t2 p hp).1, hto, Option.bind_some, a2, bi_some]
theorem sim_tO (hn : 1000 ≤ n) (hG : G b e m K N L3 L2 μ s) (hb : b + 20 < 2 ^ 28) (hh : h < 3) (h5 : μ e 5 = nI h) {p w : Nat} (hp : p < 16) (hw : w < 3) {v : Int32} (hv : w = 1 → ∃ x, x ≤ 9999 ∧ v = nI x) : ∃ r μ' s', F_X3_touchByOuter n e (nI p) (nI w) v μ = some (r, μ') ∧ F_X11_touchOuter n m (nI p) (nI w) v s = some (r, s') ∧ Gs (b + 20) e m K N μ' s' ∧ (∀ a j, tf e a j → μ' a j = μ a j) ∧ (r = -4 ∨ ∃ x, x ≤ 9999 ∧ r = nI x) := by
  have hT := G_q hG 0 (by decide)
  have hD : ∃ d, d = (64 : Int32) + (4 : Int32) * nI p + nI w := ⟨_, rfl⟩
  obtain ⟨d, hD⟩ := hD
  have h27 : s (m + 1) 27 = μ (e + 1) 3 := G_rd hG (i := 27) (by decide +kernel)
  have h2r := G_rd hG (gd_t2 p hp).2.1
  have mp : ∀ (s0 : gw_M), F_X11_touchOuter_32 n m (nI p) (nI w) v d s0 = (if w = 1 ∧ bt (s0 (m + 1) 27) p = true ∧ bt (s0 (m + 1) (707 + 2 * p)) 1 = true then (F_X11_see n m 9 d s0).bind (fun (μ_7 : gw_M) => (F_X11_part n m (nI p) μ_7).bind (fun (μ_11 : gw_M) => F_X11_touchOuter_54 n m (nI p) (nI w) v d μ_11)) else F_X11_touchOuter_54 n m (nI p) (nI w) v d s0) := by
    intro s0
    rw [F_X11_touchOuter_32, m_isParted hp hw, Option.bind_some]
    by_cases c : w = 1 ∧ bt (s0 (m + 1) 27) p = true ∧ bt (s0 (m + 1) (707 + 2 * p)) 1 = true
    · rw [if_pos c, if_pos c, if_neg (by decide)]
    · rw [if_neg c, if_neg c, if_pos rfl]
  have give : ∀ (bb : Nat) (L3' L2' : List Nat) (μ0 s0 : gw_M), bb + 19 < 2 ^ 28 → G bb e m K N L3' L2' μ0 s0 → μ0 e 5 = nI h → μ0 (e + 3) p = -1 → ∃ r μ' s' s1, F_X3_touchByOuter_101 n e (nI p) (nI w) v μ0 = some (r, μ') ∧ F_X11_give n m (nI p) s0 = some s1 ∧ bt (s1 (m + 1) 27) p = false ∧ F_X11_touchOuter_54 n m (nI p) (nI w) v d s1 = some (r, s') ∧ Gs (bb + 17) e m K N μ' s' ∧ (∀ a j, tf e a j → μ' a j = μ0 a j) ∧ (r = -4 ∨ ∃ x, x ≤ 9999 ∧ r = nI x) := by
    intro bb L3' L2' μ0 s0 hbb hG0 h50 h30
    obtain ⟨x, μ1, μ2, s1, f, g1, g2, g3, ⟨L3'', L2'', g4⟩, g5, g6, g7, g8, g9, g10⟩ := sim_give (n := n) hn hG0 (by omega) hh (G_s15 hG0 h50) hp
    have g27 : s1 (m + 1) 27 = μ2 (e + 1) 3 := G_rd g4 (i := 27) (by decide +kernel)
    obtain ⟨r, μ', s', k1, k2, k3, k4, k5⟩ := sim_127 (n := n) g4 hp g6 hw hv g7 (by rw [gr2_nc g4 hp g9, g8]; exact bt_7 w hw) d
    refine ⟨r, μ', s', s1, ?_, g3, by rw [g27]; exact g9, k2, ⟨_, _, k3⟩, fun a j ha => ?_, k5⟩
    · have hne : ¬ μ2 (e + 2 + 1) p = -1 := by show ¬ μ2 (e + 3) p = -1; rw [g7, nI_m1 (by omega)]; exact id
      rw [F_X3_touchByOuter_101, c_tabHas hp, Option.bind_some, if_neg hne, if_pos (by decide)] at k1
      rw [F_X3_touchByOuter_101, c_tabHas hp, Option.bind_some, if_pos h30, if_neg (not_not_intro rfl), g1, bi_some, g2, Option.bind_some]
      exact k1
    · rw [k4 a j ha]
      unfold tf at ha
      exact g5 a j (by omega)
  simp only [F_X3_touchByOuter, F_X11_touchOuter, gw_let, ← hD, c_tabHas hp, m_to2 hp, Option.bind_some, G_rd hG (gd_t2 p hp).1, nI3 (show w < 2 ^ 31 by omega)]
  show ∃ r μ' s', (if ¬ (if μ (e + 3) p = -1 then (0 : Int32) else 1) = 0 then _ else _) = some (r, μ') ∧ (if ¬ μ (e + 3) p = -1 then _ else _) = some (r, s') ∧ _
  rcases G_sh hG hp with ⟨h0, h0'⟩ | ⟨f, hf, h0, h0'⟩
  · rw [if_pos h0, if_neg (not_not_intro rfl), if_neg (not_not_intro h0)]
    obtain ⟨k1, s1, k2, k3⟩ := sim_see (n := n) hn hG (by omega) 2 d
    obtain ⟨r, μ', s', s2, z1, z2, z3, z4, ⟨L3', L2', z5⟩, z6, z7⟩ := give (b + 1) L3 L2 _ s1 (by omega) k3 (by rw [cwx0_ne (by omega)]; exact h5) (by rw [cwx0_ne (by omega)]; exact h0)
    refine ⟨r, μ', s', ?_, ?_, ⟨_, _, G_mono z5 (by omega) (by omega)⟩, fun a j ha => ?_, z7⟩
    · rw [k1, Option.bind_some]; exact z1
    · rw [k2, Option.bind_some, z2, Option.bind_some, mp, if_neg (by rw [z3]; simp)]; exact z4
    · rw [z6 a j ha]
      unfold tf at ha
      exact cwx0_ne (by omega)
  · have hne : ¬ μ (e + 3) p = -1 := by rw [h0, nI_m1 (by omega)]; exact id
    rw [if_neg hne, if_pos (by decide), if_pos hne, mp, h27, h2r, c_parts hp, Option.bind_some]
    by_cases hc : w = 1 ∧ bt (μ (e + 1) 3) p = true ∧ bt (μ (e + 4) p) 1 = true
    · rw [if_neg (not_not_intro hc.1), if_pos hc.2, if_pos hc, if_neg (by decide)]
      obtain ⟨k1, s1, k2, k3⟩ := sim_see (n := n) hn hG (by omega) 9 d
      have h51 : cwx0 e 0 9 d (μ e 7) μ e 5 = nI h := by rw [cwx0_ne (by omega)]; exact h5
      rw [k1, k2, Option.bind_some, Option.bind_some]
      obtain ⟨μ1, μ2, p1, p2, p3, p4, p5⟩ := sim_part (n := n) hn k3 hh (G_s15 k3 h51) hp hf (by rw [cwx0_ne (by omega)]; exact h0)
      rw [p1, Option.bind_some, p2, Option.bind_some]
      have h52 : μ2 e 5 = nI h := by rw [p3 _ _ (by omega)]; exact h51
      rcases p5 with ⟨s2, q1, ⟨L3', L2', q2⟩, q3, q4, q5⟩ | ⟨s2, q1, ⟨L3', L2', q2⟩, q3⟩
      · obtain ⟨r, μ', s', z1, z2, z3, z4, z7⟩ := sim_127 (n := n) q2 hp hf hw hv q3 (by rw [gr2_nc q2 hp q5, q4, cwx0_ne (by omega), hc.1]; exact hc.2.2) d
        refine ⟨r, μ', s', z1, ?_, ⟨_, _, G_mono z3 (by omega) (by omega)⟩, fun a j ha => ?_, z7⟩
        · rw [q1, Option.bind_some]; exact z2
        · rw [z4 a j ha]
          unfold tf at ha
          rw [p3 a j (by omega)]
          exact cwx0_ne (by omega)
      · obtain ⟨r, μ', s', s3, z1, z2, z3, z4, ⟨L3'', L2'', z5⟩, z6, z7⟩ := give (b + 1) L3' L2' μ2 s2 (by omega) q2 h52 q3
        refine ⟨r, μ', s', z1, ?_, ⟨_, _, G_mono z5 (by omega) (by omega)⟩, fun a j ha => ?_, z7⟩
        · rw [q1, z2, Option.bind_some]; exact z4
        · rw [z6 a j ha]
          unfold tf at ha
          rw [p3 a j (by omega)]
          exact cwx0_ne (by omega)
    · rw [if_neg hc]
      have hx : (if ¬ w = 1 then F_X3_touchByOuter_76 n e (nI p) (nI w) v d μ else (if (if bt (μ (e + 1) 3) p = true ∧ bt (μ (e + 4) p) 1 = true then (1 : Int32) else 0) = 0 then F_X3_touchByOuter_76 n e (nI p) (nI w) v d μ else (F_X3_hostSees n e 9 d μ).bind (fun (μ_14 : gw_M) => (F_X4_part n (e + 1) (nI p) μ_14).bind (fun (μ_18 : gw_M) => (F_X3_unfold n e ((1 : Int32) <<< (nI p &&& 31)) μ_18).bind (fun (μ_22 : gw_M) => F_X3_touchByOuter_101 n e (nI p) (nI w) v μ_22))))) = F_X3_touchByOuter_76 n e (nI p) (nI w) v d μ := by
        by_cases h1 : w = 1
        · rw [if_neg (not_not_intro h1), if_neg (show ¬ (bt (μ (e + 1) 3) p = true ∧ bt (μ (e + 4) p) 1 = true) from fun c => hc ⟨h1, c⟩), if_pos rfl]
        · rw [if_pos h1]
      rw [hx, F_X3_touchByOuter_76]
      have hgg := gr2_bt hG hp hw hc
      have cg : F_X8_gives n (e + 2) (nI p) (nI w) μ = some (if bt (μ (e + 4) p) w then 1 else 0) := c_tabGives (a := e + 2) hp (by omega)
      rw [cg, Option.bind_some]
      cases hbt : bt (μ (e + 4) p) w
      · obtain ⟨k1, s1, k2, k3⟩ := sim_see (n := n) hn hG (by omega) 3 d
        rw [hbt] at hgg
        refine ⟨-4, _, s1, ?_, ?_, ⟨L3, L2, G_mono k3 (by omega) (by omega)⟩, fun a j ha => ?_, Or.inl rfl⟩
        · rw [if_neg Bool.false_ne_true, if_neg (not_not_intro rfl), k1, Option.bind_some]
        · rw [F_X11_touchOuter_54, m_gives2 hT hp (by omega), ← hgg, Option.bind_some, if_neg Bool.false_ne_true, if_neg (not_not_intro rfl), k2, Option.bind_some]
        · unfold tf at ha
          exact cwx0_ne (by omega)
      · rw [hbt] at hgg
        obtain ⟨r, μ', s', z1, z2, z3, z4, z7⟩ := sim_127 (n := n) hG hp hf hw hv h0 hgg.symm d
        refine ⟨r, μ', s', ?_, z2, ⟨L3, L2, G_mono z3 (by omega) (by omega)⟩, z4, z7⟩
        rw [if_pos rfl, if_pos (by decide)]; exact z1
end TOUCH3
