/-! ===== touches, both sides ===== -/
/-- cells that a touch leaves -/
def tf (e a j : Nat) : Prop := (a = e ∧ j ≠ 6 ∧ j ≠ 12) ∨ (a = e + 25 ∧ j = 9) ∨ (e + 12 ≤ a ∧ ¬ (a = e + 13 ∧ j = 4) ∧ (a < e + 25 ∨ e + 32 < a))
theorem bt_m3 : ∀ w < 3, bt (-3) w = decide (w ≠ 1) := by decide +kernel
theorem bt_7 : ∀ w < 3, bt 7 w = true := by decide +kernel
theorem t_na : ∀ h < 3, ∀ k < 9, na k (364 + 162 * h) = false := by decide +kernel
section TOUCH2
variable {b e m n h : Nat} {K N : gw_M} {L3 L2 L : List Nat} {μ s : gw_M}
theorem c_gv01 (hG : G b e m K N L3 L2 μ s) (hh : h < 3) {t p w : Nat} (ht : t < 2) (hp : p < 16) (hw : w < 32) {a : Nat} (ha : a = e + (44 + 15 * h + 4 * t)) : F_X8_gives n a (nI p) (nI w) μ = some (if bt (s (m + 1) (300 + 162 * h + 32 * t + 2 * p)) w then 1 else 0) := by
  rw [c_tabGives hp hw, G_rd hG (gd_e hh ht hp).2.1, show a + 2 = e + (46 + 15 * h + 4 * t) by omega]
theorem gr2_nc (hG : G b e m K N L3 L2 μ s) {q : Nat} (hq : q < 16) (hc : bt (μ (e + 1) 3) q = false) : gr_2 (s (m + 1)) q = μ (e + 4) q := by
  have h27 : s (m + 1) 27 = μ (e + 1) 3 := G_rd hG (i := 27) (by decide +kernel)
  have h2 := G_rd hG (gd_t2 q hq).2.1
  unfold gr_2
  rw [h27, h2, if_neg]
  intro c
  have : bt (μ (e + 1) 3) q = true := c
  rw [hc] at this
  cases this
theorem gr2_bt (hG : G b e m K N L3 L2 μ s) {q w : Nat} (hq : q < 16) (hw : w < 3) (hc : ¬ (w = 1 ∧ bt (μ (e + 1) 3) q = true ∧ bt (μ (e + 4) q) 1 = true)) : bt (μ (e + 4) q) w = bt (gr_2 (s (m + 1)) q) w := by
  cases hb : bt (μ (e + 1) 3) q
  · rw [gr2_nc hG hq hb]
  · have h27 : s (m + 1) 27 = μ (e + 1) 3 := G_rd hG (i := 27) (by decide +kernel)
    have h2 := G_rd hG (gd_t2 q hq).2.1
    have h3 : gr_2 (s (m + 1)) q = μ (e + 4) q &&& (-3) := by
      unfold gr_2
      rw [h27, h2]
      exact if_pos hb
    rw [h3, b_and, bt_m3 w hw]
    by_cases h1 : w = 1
    · subst h1
      cases hr : bt (μ (e + 4) q) 1
      · rfl
      · exact absurd ⟨rfl, hb, hr⟩ hc
    · simp [h1]
theorem sim_116 (hn : 1000 ≤ n) (hG : G b e m K N L3 L2 μ s) (hb : b + 2 < 2 ^ 28) {p q f w : Nat} (hp : p < 16) (hq : q < 16) (hf : f ≤ 9) (hw : w < 3) {v : Int32} (hv : w = 1 → ∃ x, x ≤ 9999 ∧ v = nI x) (hh : h < 3) (h5 : μ e 5 = nI h) (ht : μ (e + 49 + 15 * h) p = nI q) (hto : μ (e + 3) q = nI f) (hgv : bt (μ (e + 4) q) w = bt (gr_2 (s (m + 1)) q) w) (h9 : bt (gr_2 (s (m + 1)) q) w = true → μ (e + 9) p = -1) : ∃ r μ' s', gw_bi (F_X3_foldOnTouch_116 n e (nI p) (nI w) (nI q) μ) (fun (r_17 : Int32) (μ_18 : gw_M) => (if r_17 = 0 then F_X3_touchByInner_92 n e (nI w) v (nI p) μ_18 else some (r_17, μ_18))) = some (r, μ') ∧ F_X11_touchInner_159 n m (nI w) v (nI p) (nI q) s = some (r, s') ∧ Gs (b + 2) e m K N μ' s' ∧ (r = -4 ∨ ∃ x, x ≤ 9999 ∧ r = nI x) ∧ ∀ a j, tf e a j → μ' a j = μ a j := by
  have hT := G_q hG 0 (by decide)
  have cg : F_X8_gives n (e + 2) (nI q) (nI w) μ = some (if bt (μ (e + 4) q) w then 1 else 0) := c_tabGives (a := e + 2) hq (by omega)
  have mg := m_gives2 (n := n) (m := m) hT hq (show w < 32 by omega)
  cases hbt : bt (μ (e + 4) q) w
  · rw [hbt] at cg hgv
    rw [← hgv] at mg
    refine ⟨-4, μ, s, ?_, ?_, ⟨L3, L2, G_mono hG (by omega) (by omega)⟩, Or.inl rfl, fun _ _ _ => rfl⟩
    · rw [F_X3_foldOnTouch_116, cg]; rfl
    · rw [F_X11_touchInner_159, mg]; rfl
  · rw [hbt] at cg hgv
    rw [← hgv] at mg
    have hpL : p ∉ L3 := fun c => (((G_L3 hG).2.1 p).mp c).2 (h9 hgv.symm)
    obtain ⟨μ1, s1, a1, a2, ⟨L3', L2', a3⟩, a4, a5⟩ := sim_foldT (n := n) hn hG (by omega) hp hpL hh (G_s15 hG h5) hq hf ht hto (nI w) (nI q) cg
    obtain ⟨x, μ2, s2, hx, c1, c2, c3, c4⟩ := sim_doInner (n := n) hn a3 (by omega) hp hf a4 hw hv
    have hto3 : F_X11_toOf n m 3 (nI p) s1 = some (nI f) := by rw [m_to3 hp, G_rd a3 (gd_t2 p hp).2.2.1, a4]
    refine ⟨nI x, μ2, s2, ?_, ?_, ⟨_, _, c3⟩, Or.inr ⟨x, hx, rfl⟩, fun a j ha => ?_⟩
    · rw [a1, bi_some, if_pos rfl]; exact c1
    · rw [F_X11_touchInner_159, mg, Option.bind_some, if_pos (by decide), a2, Option.bind_some, hto3, Option.bind_some, c2, bi_some]
    · unfold tf at ha
      rw [c4 a j (by omega) (by omega) (by omega) (by omega), a5 a j (by omega)]
theorem sim_fo (hn : 1000 ≤ n) (hG : G b e m K N L3 L2 μ s) (hb : b + 20 < 2 ^ 28) {p q w : Nat} (hp : p < 16) (hq : q < 16) (hw : w < 3) {v : Int32} (hv : w = 1 → ∃ x, x ≤ 9999 ∧ v = nI x) (hh : h < 3) (h5 : μ e 5 = nI h) (ht : μ (e + 49 + 15 * h) p = nI q) (hr1 : bt (μ (e + 50 + 15 * h) p) w = true) (h10 : bt (μ (e + 10) p) w = false) : ∃ r μ' s', gw_bi (if ¬ nI w = 1 then F_X3_foldOnTouch_88 n e (nI p) (nI w) (nI q) μ else (F_X4_partsOnWrite n (e + 1) (nI q) μ).bind (fun (r_18 : Int32) => (if r_18 = 0 then F_X3_foldOnTouch_88 n e (nI p) (nI w) (nI q) μ else (F_X4_part n (e + 1) (nI q) μ).bind (fun (μ_24 : gw_M) => (F_X3_unfold n e ((1 : Int32) <<< (nI q &&& 31)) μ_24).bind (fun (μ_28 : gw_M) => F_X3_foldOnTouch_88 n e (nI p) (nI w) (nI q) μ_28))))) (fun (r_17 : Int32) (μ_18 : gw_M) => (if r_17 = 0 then F_X3_touchByInner_92 n e (nI w) v (nI p) μ_18 else some (r_17, μ_18))) = some (r, μ') ∧ (F_X11_toOf n m 2 (nI q) s).bind (fun (r_28 : Int32) => (if ¬ r_28 = (-1) then F_X11_touchInner_143 n m (nI w) v (nI p) (nI q) s else (F_X11_give n m (nI q) s).bind (fun (μ_34 : gw_M) => F_X11_touchInner_143 n m (nI w) v (nI p) (nI q) μ_34))) = some (r, s') ∧ Gs (b + 19) e m K N μ' s' ∧ (r = -4 ∨ ∃ x, x ≤ 9999 ∧ r = nI x) ∧ ∀ a j, tf e a j → μ' a j = μ a j := by
  have hT := G_q hG 0 (by decide)
  have h27 : s (m + 1) 27 = μ (e + 1) 3 := G_rd hG (i := 27) (by decide +kernel)
  have h2r := G_rd hG (gd_t2 q hq).2.1
  have h15 := G_s15 hG h5
  have sTo : s (m + 1) (706 + 2 * q) = μ (e + 3) q := G_rd hG (gd_t2 q hq).1
  obtain ⟨d1, d2, -, -⟩ := gd_e hh (t := 1) (by decide) hp
  have st : s (m + 1) (331 + 162 * h + 2 * p) = nI q := by
    have := G_rd hG d1
    rw [show 299 + 162 * h + 32 * 1 + 2 * p = 331 + 162 * h + 2 * p by omega, show e + (45 + 15 * h + 4 * 1) = e + 49 + 15 * h by omega, ht] at this
    exact this
  have sr1 : s (m + 1) (332 + 162 * h + 2 * p) = μ (e + 50 + 15 * h) p := by
    have := G_rd hG d2
    rw [show 300 + 162 * h + 32 * 1 + 2 * p = 332 + 162 * h + 2 * p by omega, show e + (46 + 15 * h + 4 * 1) = e + 50 + 15 * h by omega] at this
    exact this
  have F := (G_q hG 8 (by decide)).1 h hh h15 p hp
  have s9 : s (m + 1) (754 + 2 * p) = μ (e + 9) p := G_rd hG (gd_t2 p hp).2.2.1
  have s10 : s (m + 1) (755 + 2 * p) = μ (e + 10) p := G_rd hG (gd_t2 p hp).2.2.2.1
  simp only [m_to2 hq, Option.bind_some, sTo, nI3 (show w < 2 ^ 31 by omega), c_parts hq]
  have mp : ∀ (s0 : gw_M), F_X11_touchInner_143 n m (nI w) v (nI p) (nI q) s0 = (if w = 1 ∧ bt (s0 (m + 1) 27) q = true ∧ bt (s0 (m + 1) (707 + 2 * q)) 1 = true then (F_X11_part n m (nI q) s0).bind (fun (μ_7 : gw_M) => F_X11_touchInner_159 n m (nI w) v (nI p) (nI q) μ_7) else F_X11_touchInner_159 n m (nI w) v (nI p) (nI q) s0) := by
    intro s0
    rw [F_X11_touchInner_143, m_isParted hq hw, Option.bind_some]
    by_cases c : w = 1 ∧ bt (s0 (m + 1) 27) q = true ∧ bt (s0 (m + 1) (707 + 2 * q)) 1 = true
    · rw [if_pos c, if_pos c, if_neg (by decide)]
    · rw [if_neg c, if_neg c, if_pos rfl]
  have c88 : ∀ μ0 : gw_M, F_X3_foldOnTouch_88 n e (nI p) (nI w) (nI q) μ0 = (if μ0 (e + 3) q = -1 then (gw_bi (F_X4_give n (e + 1) (nI q) μ0) (fun (r_6 : Int32) (μ_7 : gw_M) => (F_X3_unfold n e r_6 μ_7).bind (fun (μ_11 : gw_M) => F_X3_foldOnTouch_116 n e (nI p) (nI w) (nI q) μ_11))) else F_X3_foldOnTouch_116 n e (nI p) (nI w) (nI q) μ0) := by
    intro μ0
    rw [F_X3_foldOnTouch_88, c_tabHas hq, Option.bind_some]
    by_cases c : μ0 (e + 2 + 1) q = -1
    · rw [if_pos c, if_neg (not_not_intro rfl), if_pos c]
    · rw [if_neg c, if_pos (by decide), if_neg c]
  -- given, and then folded
  have give : ∀ (bb : Nat) (L3' L2' : List Nat) (μ0 s0 : gw_M), bb + 19 < 2 ^ 28 → G bb e m K N L3' L2' μ0 s0 → μ0 e 5 = nI h → μ0 (e + 49 + 15 * h) p = nI q → μ0 (e + 3) q = -1 → μ0 (e + 9) p = -1 → ∃ r μ' s' s1, gw_bi (F_X3_foldOnTouch_88 n e (nI p) (nI w) (nI q) μ0) (fun (r_17 : Int32) (μ_18 : gw_M) => (if r_17 = 0 then F_X3_touchByInner_92 n e (nI w) v (nI p) μ_18 else some (r_17, μ_18))) = some (r, μ') ∧ F_X11_give n m (nI q) s0 = some s1 ∧ bt (s1 (m + 1) 27) q = false ∧ F_X11_touchInner_159 n m (nI w) v (nI p) (nI q) s1 = some (r, s') ∧ Gs (bb + 19) e m K N μ' s' ∧ (r = -4 ∨ ∃ x, x ≤ 9999 ∧ r = nI x) ∧ ∀ a j, tf e a j → μ' a j = μ0 a j := by
    intro bb L3' L2' μ0 s0 hbb hG0 h50 ht0 h30 h90
    obtain ⟨x, μ1, μ2, s1, f, g1, g2, g3, ⟨L3'', L2'', g4⟩, g5, g6, g7, g8, g9, g10⟩ := sim_give (n := n) hn hG0 (by omega) hh (G_s15 hG0 h50) hq
    have g27 : s1 (m + 1) 27 = μ2 (e + 1) 3 := G_rd g4 (i := 27) (by decide +kernel)
    obtain ⟨r, μ', s', k1, k2, k3, k4, k5⟩ := sim_116 (n := n) hn g4 (by omega) hp hq g6 hw hv hh (by rw [g5 _ _ (by omega)]; exact h50) (by rw [g5 _ _ (by omega)]; exact ht0) g7 (gr2_bt g4 hq hw (by rw [g9]; simp)) (fun _ => g10 p hp h90)
    refine ⟨r, μ', s', s1, ?_, g3, by rw [g27]; exact g9, k2, k3, k4, fun a j ha => ?_⟩
    · rw [c88, if_pos h30, g1, bi_some, g2, Option.bind_some]; exact k1
    · rw [k5 a j ha]
      unfold tf at ha
      exact g5 a j (by omega)
  rcases G_sh hG hq with ⟨h0, h0'⟩ | ⟨f, hf, h0, h0'⟩
  · -- no entry
    have hrz : μ (e + 4) q = 0 := by rw [← h2r]; exact (hT q hq).1 h0'
    have h90 : μ (e + 9) p = -1 := by
      apply Classical.byContradiction
      intro c
      obtain ⟨q', hq', w1, w2, w3⟩ := F (by rw [s9]; exact c)
      have := nI_inj (by omega) (by omega) (st.symm.trans w1)
      subst this
      rw [h0', s9] at w2
      exact c w2.symm
    obtain ⟨r, μ', s', s1, k1, k2, k3, k4, k5, k6, k7⟩ := give b L3 L2 μ s (by omega) hG h5 ht h0 h90
    refine ⟨r, μ', s', ?_, ?_, k5, k6, k7⟩
    · rw [if_neg (show ¬ (bt (μ (e + 1) 3) q = true ∧ bt (μ (e + 4) q) 1 = true) by rw [hrz, b_0]; simp), if_pos rfl, ite_self]
      exact k1
    · rw [if_neg (not_not_intro h0), k2, Option.bind_some, mp, if_neg (by rw [k3]; simp)]
      exact k4
  · have hne : ¬ μ (e + 3) q = -1 := by rw [h0, nI_m1 (by omega)]; exact id
    rw [if_pos hne, mp, h27, h2r]
    by_cases hc : w = 1 ∧ bt (μ (e + 1) 3) q = true ∧ bt (μ (e + 4) q) 1 = true
    · -- parted
      rw [if_neg (not_not_intro hc.1), if_pos hc.2, if_pos hc, if_neg (by decide)]
      obtain ⟨μ1, μ2, p1, p2, p3, p4, p5⟩ := sim_part (n := n) hn hG hh h15 hq hf h0
      have tb : tob e h q μ p = true := by
        unfold tob
        rw [ht]
        simp
      rw [p1, Option.bind_some, p2, Option.bind_some]
      have h52 : μ2 e 5 = nI h := by rw [p3 _ _ (by omega)]; exact h5
      have ht2 : μ2 (e + 49 + 15 * h) p = nI q := by rw [p3 _ _ (by omega)]; exact ht
      have h92 := p4 p hp (Or.inr tb)
      rcases p5 with ⟨s1, q1, ⟨L3', L2', q2⟩, q3, q4, q5⟩ | ⟨s1, q1, ⟨L3', L2', q2⟩, q3⟩
      · obtain ⟨r, μ', s', k1, k2, ⟨L3'', L2'', k3⟩, k4, k5⟩ := sim_116 (n := n) hn q2 (by omega) hp hq hf hw hv hh h52 ht2 q3 (gr2_bt q2 hq hw (by rw [q5]; simp)) (fun _ => h92)
        refine ⟨r, μ', s', ?_, ?_, ⟨_, _, G_mono k3 (by omega) (by omega)⟩, k4, fun a j ha => ?_⟩
        · rw [c88, if_neg (by rw [q3, nI_m1 (by omega)]; exact id)]; exact k1
        · rw [q1, Option.bind_some]; exact k2
        · rw [k5 a j ha]
          unfold tf at ha
          exact p3 a j (by omega)
      · obtain ⟨r, μ', s', s2, k1, k2, k3, k4, k5, k6, k7⟩ := give b L3' L2' μ2 s1 (by omega) q2 h52 ht2 q3 h92
        refine ⟨r, μ', s', k1, ?_, k5, k6, fun a j ha => ?_⟩
        · rw [q1, k2, Option.bind_some]; exact k4
        · rw [k7 a j ha]
          unfold tf at ha
          exact p3 a j (by omega)
    · rw [if_neg hc]
      have hx : (if ¬ w = 1 then F_X3_foldOnTouch_88 n e (nI p) (nI w) (nI q) μ else (if (if bt (μ (e + 1) 3) q = true ∧ bt (μ (e + 4) q) 1 = true then (1 : Int32) else 0) = 0 then F_X3_foldOnTouch_88 n e (nI p) (nI w) (nI q) μ else (F_X4_part n (e + 1) (nI q) μ).bind (fun (μ_24 : gw_M) => (F_X3_unfold n e ((1 : Int32) <<< (nI q &&& 31)) μ_24).bind (fun (μ_28 : gw_M) => F_X3_foldOnTouch_88 n e (nI p) (nI w) (nI q) μ_28)))) = F_X3_foldOnTouch_88 n e (nI p) (nI w) (nI q) μ := by
        by_cases h1 : w = 1
        · rw [if_neg (not_not_intro h1), if_neg (show ¬ (bt (μ (e + 1) 3) q = true ∧ bt (μ (e + 4) q) 1 = true) from fun c => hc ⟨h1, c⟩), if_pos rfl]
        · rw [if_pos h1]
      rw [hx, c88, if_neg hne]
      obtain ⟨r, μ', s', k1, k2, ⟨L3'', L2'', k3⟩, k4, k5⟩ := sim_116 (n := n) hn hG (by omega) hp hq hf hw hv hh h5 ht h0 (gr2_bt hG hq hw hc) (fun hg => by
        apply Classical.byContradiction
        intro c
        obtain ⟨q', hq', w1, w2, w3⟩ := F (by rw [s9]; exact c)
        have := nI_inj (by omega) (by omega) (st.symm.trans w1)
        subst this
        rw [s10, sr1] at w3
        rw [w3, b_and, hr1, hg] at h10
        cases h10)
      exact ⟨r, μ', s', k1, k2, ⟨_, _, G_mono k3 (by omega) (by omega)⟩, k4, k5⟩
theorem ent_ne {x y : Int32} {w : Nat} (hT : x = -1 → y = 0) (hb : bt y w = true) : ¬ x = -1 := by
  intro c
  rw [hT c, b_0] at hb
  cases hb
theorem sim_tI (hn : 1000 ≤ n) (hG : G b e m K N L3 L2 μ s) (hb : b + 21 < 2 ^ 28) (hl : μ e 6 = 2) (hh : h < 3) (h5 : μ e 5 = nI h) {p w : Nat} (hp : p < 16) (hw : w < 3) {v : Int32} (hv : w = 1 → ∃ x, x ≤ 9999 ∧ v = nI x) : ∃ r μ' s', F_X3_touchByInner n e (nI p) (nI w) v μ = some (r, μ') ∧ F_X11_touchInner n m (nI p) (nI w) v s = some (r, s') ∧ Gs (b + 20) e m K N μ' s' ∧ (∀ a j, tf e a j → ¬ (a = e + 25 ∧ j = 9) → ¬ (a = e + 37 + 15 * h ∧ j = 4) → μ' a j = μ a j) ∧ μ' (e + 25) 9 = (if r = -2 ∧ sr (μ (e + 19) 1) (μ (e + 19) 0) 0 = 2 then μ (e + 25) 9 + 1 else μ (e + 25) 9) := by
  have hT := G_q hG 0 (by decide)
  have h15 := G_s15 hG h5
  have hne2 : ∀ r : Int32, (r = -4 ∨ ∃ x, x ≤ 9999 ∧ r = nI x) → ¬ r = -2 := by
    rintro r (rfl | ⟨x, hx, rfl⟩)
    · decide
    · intro c
      have := nI_toInt (n := x) (by omega)
      rw [c] at this
      have h2 : (-2 : Int32).toInt = -2 := by decide
      omega
  obtain ⟨d1, d2, d3, d4⟩ := gd_e hh (t := 0) (by decide) hp
  have cg0 := c_gv01 (n := n) hG hh (t := 0) (by decide) hp (show w < 32 by omega) (a := e + 37 + 15 * h + 7) (by omega)
  have mg0 : F_X11_gives n m 0 (nI p) (nI w) s = _ := m_gives01 (n := n) hT hh h15 (t := 0) (by decide) hp (show w < 32 by omega)
  simp only [F_X3_touchByInner, F_X11_touchInner, c_inHand hh h5, Option.bind_some, cg0, mg0]
  cases hb0 : bt (s (m + 1) (300 + 162 * h + 32 * 0 + 2 * p)) w
  · -- it traps
    rw [if_neg Bool.false_ne_true, if_neg (not_not_intro rfl), if_neg (not_not_intro rfl)]
    obtain ⟨r, μ1, s1, e1, e2, e3, e4, e5⟩ := sim_evI (n := n) hn hG (by omega) hl (k := 0) (by decide)
    have e1' : F_X3_eventOfInner n e 0 μ = some (r, μ1) := e1
    have e2' : F_X11_eventNow n m 0 s = some (r, s1) := e2
    rw [e1', e2', bi_some, bi_some]
    have ef9 : ef e (e + 25) 9 := by unfold ef; omega
    have ef5 : ef e e 5 := by unfold ef; omega
    by_cases hr : r = 2
    · rw [if_neg (not_not_intro hr), if_neg (not_not_intro hr)]
      have G1 := G_inc e3 (by omega) (i := 7) (c := 25) (j := 9) (by decide +kernel) (by decide +kernel) (by decide +kernel)
      obtain ⟨-, i2, -, -, i5, -⟩ := gd_i3 h hh
      have G2 := G_fr G1 i2 (v := nI p) (gq_nI (n := 15) i5 (by decide) (by omega) (by decide)) (t_na h hh)
      have hx : s1 (m + 1) 15 = nI h := G_s15 e3 (by rw [e5 _ _ ef5]; exact h5)
      have hga := (m_guestAt (n := n) (m := m) (s := gw_up s1 (m + 1) 7 (s1 (m + 1) 7 + 1)) (gu := 2) (g := 1 + h) (Or.inr ⟨rfl, h, hh, by rw [up_ne (by omega)]; exact hx, rfl⟩)).1
      simp only [gw_let, hga, Option.bind_some, show (144 : Int32) = nI 144 from rfl, nI_add, nI_clamp (show 58 + 162 * (1 + h) + 144 < 2 ^ 31 by omega)]
      rw [if_pos ⟨nI_pos' (by omega), by omega⟩, show 58 + 162 * (1 + h) + 144 = 364 + 162 * h by omega]
      refine ⟨-2, _, _, rfl, rfl, ⟨L3, L2, ?_⟩, fun a j ha h1 h2 => ?_, ?_⟩
      · rw [up_ne (a := e + 37 + 15 * h) (by omega), up_comm (a := e + 37 + 15 * h) (by omega), show e + 37 + 15 * h = e + (37 + 15 * h) by omega]
        exact G_mono G2 (by omega) (by omega)
      · rw [up_ne (by omega), up_ne (by omega)]
        refine e5 a j ?_
        unfold tf at ha
        unfold ef
        omega
      · rw [up_eq ⟨rfl, rfl⟩, up_ne (by omega), e5 _ _ ef9, if_pos ⟨rfl, e4.symm.trans hr⟩]
    · rw [if_pos hr, if_pos hr]
      refine ⟨-2, _, _, rfl, rfl, ⟨L3, L2, G_mono e3 (by omega) (by omega)⟩, fun a j ha h1 h2 => ?_, ?_⟩
      · refine e5 a j ?_
        unfold tf at ha
        unfold ef
        omega
      · rw [e5 _ _ ef9, if_neg (fun c => hr (e4.trans c.2))]
  · rw [if_pos rfl, if_pos (show ¬ (1 : Int32) = 0 by decide), if_pos (show ¬ (1 : Int32) = 0 by decide)]
    have hn0 : ¬ s (m + 1) (299 + 162 * h + 32 * 0 + 2 * p) = -1 := ent_ne ((hT p hp).2.2 h 0 hh (by decide)) hb0
    obtain ⟨i, hi, i1, i2⟩ : ∃ i, i ≤ 15 ∧ μ (e + (45 + 15 * h + 4 * 0)) p = nI i ∧ s (m + 1) (299 + 162 * h + 32 * 0 + 2 * p) = nI i := by
      rcases G_n1 hG d1 (n := 15) d3 with c | c
      · exact absurd c.2 hn0
      · exact c
    have to0 : F_X11_toOf n m 0 (nI p) s = some (nI i) := by
      have := m_to01 (n := n) (t := 0) hh h15 (by decide) hp
      rw [i2] at this
      exact this
    have c3 : F_X8_gives n (e + 8) (nI i) (nI w) μ = some (if bt (μ (e + 10) i) w then 1 else 0) := c_tabGives (a := e + 8) (by omega) (by omega)
    have m3 := m_gives3 (n := n) (m := m) hT (p := i) (by omega) (show w < 32 by omega)
    rw [G_rd hG (gd_t2 i (by omega)).2.2.2.1] at m3
    rw [if_pos ⟨nI_pos' (by omega), by rw [nI_clamp (by omega)]; exact hp⟩, nI_clamp (by omega), show e + 37 + 15 * h + 8 = e + (45 + 15 * h + 4 * 0) by omega, i1, to0]
    simp only [gw_let, Option.bind_some, c3, m3]
    cases hb3 : bt (μ (e + 10) i) w
    · rw [if_neg Bool.false_ne_true, if_neg (not_not_intro rfl), if_pos rfl]
      obtain ⟨d1', d2', d3', d4'⟩ := gd_e hh (t := 1) (by decide) (show i < 16 by omega)
      have cg1 := c_gv01 (n := n) hG hh (t := 1) (by decide) (show i < 16 by omega) (show w < 32 by omega) (a := e + 37 + 15 * h + 11) (by omega)
      have mg1 : F_X11_gives n m 1 (nI i) (nI w) s = _ := m_gives01 (n := n) hT hh h15 (t := 1) (by decide) (show i < 16 by omega) (show w < 32 by omega)
      have hdt : (4 : Int32) * nI i + nI w = nI (4 * i + w) := by rw [show (4 : Int32) = nI 4 from rfl, pk_mul, nI_add]
      simp only [F_X3_foldOnTouch, c_inHand hh h5, Option.bind_some, gw_let, cg1, mg1, hdt]
      cases hb1 : bt (s (m + 1) (300 + 162 * h + 32 * 1 + 2 * i)) w
      · rw [if_neg Bool.false_ne_true, if_neg (not_not_intro rfl), if_neg (not_not_intro rfl)]
        obtain ⟨k1, s1, k2, k3⟩ := sim_deal1 (n := n) hn hG (by omega) (p := i) (w := w) (by omega) (by omega)
        rw [k1, k2]
        refine ⟨-3, cdl e 1 (nI (4 * i + w)) (gw_up μ e 12 (nI i)), s1, rfl, rfl, ⟨L3, L2, G_mono k3 (by omega) (by omega)⟩, fun a j ha h1 h2 => ?_, ?_⟩
        · unfold tf at ha
          rw [cdl_ne ⟨by omega, by omega, by omega⟩, up_ne (by omega)]
        · rw [cdl_9, up_ne (by omega), if_neg (fun c => absurd c.1 (by decide))]
      · rw [if_pos rfl, if_pos (show ¬ (1 : Int32) = 0 by decide), if_pos (show ¬ (1 : Int32) = 0 by decide)]
        have hn1 : ¬ s (m + 1) (299 + 162 * h + 32 * 1 + 2 * i) = -1 := ent_ne ((hT i (by omega)).2.2 h 1 hh (by decide)) hb1
        obtain ⟨q, hq, q1, q2⟩ : ∃ q, q ≤ 15 ∧ μ (e + (45 + 15 * h + 4 * 1)) i = nI q ∧ s (m + 1) (299 + 162 * h + 32 * 1 + 2 * i) = nI q := by
          rcases G_n1 hG d1' (n := 15) d3' with c | c
          · exact absurd c.2 hn1
          · exact c
        rw [show e + (45 + 15 * h + 4 * 1) = e + 49 + 15 * h by omega] at q1
        obtain ⟨k1, s1, k2, k3⟩ := sim_see (n := n) hn hG (by omega) 2 (nI (4 * i + w))
        have hx5 : cwx0 e 0 2 (nI (4 * i + w)) (μ e 7) μ e 5 = nI h := by rw [cwx0_ne (by omega)]; exact h5
        have hx15 := G_s15 k3 hx5
        have hxt : cwx0 e 0 2 (nI (4 * i + w)) (μ e 7) μ (e + 49 + 15 * h) i = nI q := by rw [cwx0_ne (by omega)]; exact q1
        have hto1 : F_X11_toOf n m 1 (nI i) s1 = some (nI q) := by
          have := m_to01 (n := n) (t := 1) (p := i) hh hx15 (by decide) (by omega)
          rw [G_rd k3 d1', show e + (45 + 15 * h + 4 * 1) = e + 49 + 15 * h by omega, hxt] at this
          exact this
        have hr1 : bt (cwx0 e 0 2 (nI (4 * i + w)) (μ e 7) μ (e + 50 + 15 * h) i) w = true := by
          rw [cwx0_ne (by omega), show e + 50 + 15 * h = e + (46 + 15 * h + 4 * 1) by omega, ← G_rd hG d2']
          exact hb1
        obtain ⟨r, μ', s', z1, z2, ⟨L3', L2', z3⟩, z4, z5⟩ := sim_fo (n := n) hn k3 (by omega) (p := i) (q := q) (w := w) (by omega) (by omega) hw hv hh hx5 hxt hr1 (by rw [cwx0_ne (by omega)]; exact hb3)
        rw [k1, k2, Option.bind_some, Option.bind_some, hto1, if_pos ⟨nI_pos' (by omega), by rw [nI_clamp (by omega)]; omega⟩, nI_clamp (by omega), show e + 37 + 15 * h + 12 = e + 49 + 15 * h by omega, hxt, Option.bind_some]
        have hfr : ∀ a j, tf e a j → μ' a j = μ a j := by
          intro a j ha
          rw [z5 a j ha]
          unfold tf at ha
          exact cwx0_ne (by omega)
        refine ⟨r, μ', s', z1, z2, ⟨L3', L2', G_mono z3 (by omega) (by omega)⟩, fun a j ha _ _ => hfr a j ha, ?_⟩
        rw [hfr _ _ (Or.inr (Or.inl ⟨rfl, rfl⟩)), if_neg (fun c => hne2 r z4 c.1)]
    · rw [if_pos rfl, if_pos (by decide), if_neg (by decide)]
      have hn3 : ¬ s (m + 1) (754 + 2 * i) = -1 := ent_ne (hT i (by omega)).2.1 (by rw [G_rd hG (gd_t2 i (by omega)).2.2.2.1]; exact hb3)
      obtain ⟨f, hf, f1, f2⟩ : ∃ f, f ≤ 9 ∧ μ (e + 9) i = nI f ∧ s (m + 1) (754 + 2 * i) = nI f := by
        rcases G_n1 hG (gd_t2 i (by omega)).2.2.1 (n := 9) (gd_q2 i (by omega)).2.2.1 with c | c
        · exact absurd c.2 hn3
        · exact c
      obtain ⟨x, μ2, s2, hx, k1, k2, k3, k4⟩ := sim_doInner (n := n) hn hG (by omega) (show i < 16 by omega) hf f1 hw hv
      rw [m_to3 (show i < 16 by omega), f2, Option.bind_some, k2, k1, bi_some]
      refine ⟨nI x, μ2, s2, rfl, rfl, ⟨L3, L2, G_mono k3 (by omega) (by omega)⟩, fun a j ha _ _ => ?_, ?_⟩
      · unfold tf at ha
        exact k4 a j (by omega) (by omega) (by omega) (by omega)
      · rw [k4 _ _ (by omega) (by omega) (by omega) (by omega), if_neg (fun c => hne2 _ (Or.inr ⟨x, hx, rfl⟩) c.1)]
end TOUCH2
