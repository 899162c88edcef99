/-! ===== acts done ===== -/
theorem dM_t (n m : Nat) (lv v2 v9 x y : Int32) {w : Nat} (hw : w < 3) (s : gw_M) : dM n m lv v2 v9 (nI w) x y s = gw_bi (F_X11_touchNow n m x (nI w) y s) (fun (r_38 : Int32) (μ_39 : gw_M) => (if (μ_39 (m + 1) 7) ≤ (s (m + 1) 7) then F_X11_actNow_154 n m v2 v9 r_38 0 μ_39 else F_X11_actNow_154 n m v2 v9 r_38 1 μ_39)) := by
  unfold dM
  rw [if_neg (by rw [show (3 : Int32) = nI 3 from rfl]; exact nI_ge (by omega) (by omega))]
  rfl
theorem dO_t (n e : Nat) (x y : Int32) {w : Nat} (hw : w < 3) (μ : gw_M) : dO n e (nI w) x y μ = F_X3_actOfOuter_108 n e (nI w) x y μ := by
  have : w = 0 ∨ w = 1 ∨ w = 2 := by omega
  unfold dO
  rcases this with rfl | rfl | rfl
  · rw [if_pos (by decide)]
  · rw [if_neg (by decide), if_pos (by decide)]
  · rw [if_neg (by decide), if_neg (by decide), if_pos (by decide)]
theorem dI_t (n e p1 : Nat) (v3 x y : Int32) {w : Nat} (hw : w < 3) (μ : gw_M) : dI n e p1 v3 (nI w) x y μ = F_X3_actOfInner_100 n e p1 v3 (nI w) x y μ := by
  have : w = 0 ∨ w = 1 ∨ w = 2 := by omega
  unfold dI
  rcases this with rfl | rfl | rfl
  · rw [if_pos (by decide)]
  · rw [if_neg (by decide), if_pos (by decide)]
  · rw [if_neg (by decide), if_neg (by decide), if_pos (by decide)]
theorem dM_3 (n m : Nat) (lv v2 v9 x y : Int32) (s : gw_M) : dM n m lv v2 v9 (nI 3) x y s = gw_bi (F_X11_eventNow n m x s) (fun (r_33 : Int32) (μ_34 : gw_M) => some μ_34) := by
  unfold dM
  rw [if_pos (by decide), if_neg (by decide)]
theorem dM_4 (n m : Nat) (lv v2 v9 x y : Int32) (s : gw_M) : dM n m lv v2 v9 (nI 4) x y s = F_X11_actNow_201 n m (v2 + (2 : Int32)) 1 s := by
  unfold dM
  rw [if_pos (by decide), if_pos (by decide), if_neg (by decide), if_neg (by decide)]
theorem dM_5 (n m : Nat) (lv v2 v9 x y : Int32) (s : gw_M) : dM n m lv v2 v9 (nI 5) x y s = F_X11_actNow_201 n m (v2 + (2 : Int32)) 0 s := by
  unfold dM
  rw [if_pos (by decide), if_pos (by decide), if_neg (by decide), if_pos (by decide)]
theorem dM_O (n m : Nat) (v2 v9 x y : Int32) {k : Nat} (h6 : 6 ≤ k) (hk : k ≤ 11) (s : gw_M) : dM n m 1 v2 v9 (nI k) x y s = (F_X11_actOuter n m (nI k) x y s).bind (fun (μ_29 : gw_M) => some μ_29) := by
  unfold dM
  rw [if_pos (by rw [show (3 : Int32) = nI 3 from rfl]; exact nI_le (by omega) (by omega)), if_pos (fun c => by have := nI_inj (b := 3) (by omega) (by omega) c; omega), if_pos (by rw [show (6 : Int32) = nI 6 from rfl]; exact nI_le (by omega) (by omega)), if_neg (by decide)]
theorem dM_I (n m : Nat) (v2 v9 x y : Int32) {k : Nat} (h6 : 6 ≤ k) (hk : k ≤ 11) (s : gw_M) : dM n m 2 v2 v9 (nI k) x y s = (F_X11_actInner n m (nI k) x y s).bind (fun (μ_25 : gw_M) => some μ_25) := by
  unfold dM
  rw [if_pos (by rw [show (3 : Int32) = nI 3 from rfl]; exact nI_le (by omega) (by omega)), if_pos (fun c => by have := nI_inj (b := 3) (by omega) (by omega) c; omega), if_pos (by rw [show (6 : Int32) = nI 6 from rfl]; exact nI_le (by omega) (by omega)), if_pos (by decide)]
section ACT2
variable {b e m n h : Nat} {K N : gw_M} {L3 L2 L : List Nat} {μ s : gw_M}
theorem m_201 {g : Nat} (hg : g < 4) (v : Int32) : F_X11_actNow_201 n m (nI (58 + 162 * g) + (2 : Int32)) v s = some (gw_up s (m + 1) (60 + 162 * g) v) := by
  have i2 : nI (58 + 162 * g) + (2 : Int32) = nI (60 + 162 * g) := by rw [show (2 : Int32) = nI 2 from rfl, nI_add]; congr 1; omega
  rw [F_X11_actNow_201, i2, nI_clamp (by omega), if_pos ⟨nI_pos' (by omega), by omega⟩]
  rfl
theorem G_open (hG : G b e m K N L3 L2 μ s) {g v : Nat} (hg : g < 4) (hv : v ≤ 1) : G b e m K N L3 L2 (gw_up μ (e + gg_c g) 4 (nI v)) (gw_up s (m + 1) (60 + 162 * g) (nI v)) :=
  G_fr hG (gd_g g hg).2.2.1 (gq_nI (n := 1) (gd_gq g hg).1 (by decide) hv (by decide)) (fun k hk => (g_na g hg k hk).2.1)
theorem m_act0 {lv : Int32} {g : Nat} (hlv : s (m + 1) 2 = lv) (hg : gg_is s m lv g) (hM : s (m + 1) (64 + 162 * g) = nI 0) : F_X11_actNow n m s = some s := by
  have hg4 := gg_lt hg
  have ga : F_X11_guestAt n m lv s = some (nI (58 + 162 * g)) := (m_guestAt (n := n) hg).1
  have i6 : nI (58 + 162 * g) + (6 : Int32) = nI (64 + 162 * g) := by rw [show (6 : Int32) = nI 6 from rfl, nI_add]; congr 1; omega
  simp only [F_X11_actNow, gw_let, hlv, ga, Option.bind_some, i6, nI_clamp (show 64 + 162 * g < 2 ^ 31 by omega), hM]
  rw [if_pos ⟨nI_pos' (by omega), by omega⟩, if_neg (by decide)]
theorem sim_actO (hn : 1000 ≤ n) (hG : G b e m K N L3 L2 μ s) (hb : b + 20 < 2 ^ 28) (hl : μ e 6 = 1) : ∃ μ' s', F_X3_actOfOuter n e μ = some μ' ∧ F_X11_actNow n m s = some s' ∧ Gs (b + 20) e m K N μ' s' ∧ μ' e 7 = μ e 7 := by
  obtain ⟨h, hh, h5, h15⟩ := G_hand hG
  have hlv : s (m + 1) 2 = 1 := (G_level hG).1.trans hl
  have hg : gg_is s m 1 0 := Or.inl ⟨rfl, rfl⟩
  obtain ⟨M, hM24, cM, sM⟩ := G_many hG (g := 0) (by decide)
  by_cases hM0 : M = 0
  · subst hM0
    refine ⟨μ, s, ?_, m_act0 hlv hg sM, ⟨L3, L2, G_mono hG (by omega) hb⟩, rfl⟩
    have c3 : μ (e + 13) 3 = nI 0 := cM
    rw [F_X3_actOfOuter, c3, if_neg (by decide)]
  · obtain ⟨p, k, x, y, hp, c4, s4, ca, cx, cy, sa, sx, sy, hk, hx, hy, hk3, hk11, hk1, -⟩ := G_act hG (g := 0) (by decide) sM hM0 hM24
    have hA := c_actO (n := n) cM hM0 hM24 hp c4 ca cx cy
    have mA := m_actNow (n := n) hlv hg sM hM0 hM24 hp s4 sa sx sy
    have hpl : (p + 1) % M < M := Nat.mod_lt _ (by omega)
    have G1 : G b e m K N L3 L2 (gw_up μ (e + 13) 4 (nI ((p + 1) % M))) (gw_up s (m + 1) (63 + 162 * 0) (nI ((p + 1) % M))) := G_place hG (g := 0) (by decide) (by omega) (by rw [sM, nI_toInt (by omega)]; omega)
    rw [hA, mA]
    have e1 : ∀ j, gw_up μ (e + 13) 4 (nI ((p + 1) % M)) e j = μ e j := fun j => up_ne (by omega)
    have l1 : gw_up s (m + 1) (63 + 162 * 0) (nI ((p + 1) % M)) (m + 1) 2 = 1 := by rw [up_ne (by omega)]; exact hlv
    generalize gw_up μ (e + 13) 4 (nI ((p + 1) % M)) = μ1 at G1 e1 ⊢
    generalize gw_up s (m + 1) (63 + 162 * 0) (nI ((p + 1) % M)) = s1 at G1 l1 ⊢
    have h51 : μ1 e 5 = nI h := by rw [e1]; exact h5
    have h151 := G_s15 G1 h51
    rw [← e1 7]
    have fin : ∀ {μ' s' : gw_M}, G b e m K N L3 L2 μ' s' → Gs (b + 20) e m K N μ' s' := fun g => ⟨_, _, G_mono g (by omega) hb⟩
    by_cases hk2 : k < 3
    · rw [dO_t _ _ _ _ hk2, dM_t _ _ _ _ _ _ _ hk2]
      obtain ⟨r, μ', s', t1, t2, t3, t4, t5⟩ := sim_tO (n := n) hn G1 hb hh h51 (p := x) (w := k) (by omega) hk2 (v := nI y) (fun _ => ⟨y, hy, rfl⟩)
      obtain ⟨L3', L2', t3'⟩ := t3
      have tr : s' (m + 1) 7 = s1 (m + 1) 7 := by rw [G_rd t3' (i := 7) (c := 25) (j := 9) (by decide +kernel), G_rd G1 (i := 7) (c := 25) (j := 9) (by decide +kernel)]; exact t4 _ _ (Or.inr (Or.inl ⟨rfl, rfl⟩))
      have hr3 : ¬ r = -3 := by
        rcases t5 with rfl | ⟨z, hz, rfl⟩
        · decide
        · intro c
          have := nI_toInt (n := z) (by omega)
          rw [c] at this
          have h2 : (-3 : Int32).toInt = -3 := by decide
          omega
      refine ⟨μ', s', ?_, ?_, ⟨_, _, t3'⟩, t4 _ _ (Or.inl ⟨rfl, by decide, by decide⟩)⟩
      · rw [F_X3_actOfOuter_108, t1]; rfl
      · rw [F_X11_touchNow, if_neg (not_not_intro l1), t2, bi_some, bi_some, if_pos (by rw [tr]; exact Int32.le_iff_toInt_le.mpr (Int.le_refl _)), F_X11_actNow_154, if_pos (Or.inl rfl), F_X11_goOnBy, if_pos hr3, if_neg (not_not_intro rfl)]
        rfl
    · have hkc : k = 3 ∨ k = 4 ∨ k = 5 ∨ k = 6 ∨ k = 7 ∨ k = 8 ∨ k = 9 ∨ k = 10 ∨ k = 11 := by omega
      rcases hkc with rfl | rfl | rfl | rfl | rfl | rfl | rfl | rfl | rfl
      · obtain ⟨r, μ', s', t1, t2, t3, t4⟩ := sim_evO (n := n) hn G1 (by omega) (by rw [e1]; exact hl) (k := x) (by have := hk3 rfl; omega)
        refine ⟨μ', s', ?_, ?_, ⟨_, _, G_mono t3 (by omega) hb⟩, t4 _ _ (by unfold ef; omega)⟩
        · unfold dO
          rw [if_neg (by decide), if_neg (by decide), if_neg (by decide), if_pos (by decide), t1]
          rfl
        · rw [dM_3, t2]; rfl
      · refine ⟨gw_up μ1 (e + gg_c 0) 4 (nI 1), gw_up s1 (m + 1) (60 + 162 * 0) (nI 1), ?_, ?_, fin (G_open G1 (by decide) (by decide)), up_ne (by show ¬ (e = e + 12 ∧ _); omega)⟩
        · unfold dO
          rw [if_neg (by decide), if_neg (by decide), if_neg (by decide), if_neg (by decide), if_pos (by decide)]
          rfl
        · rw [dM_4]; exact m_201 (by decide) 1
      · refine ⟨gw_up μ1 (e + gg_c 0) 4 (nI 0), gw_up s1 (m + 1) (60 + 162 * 0) (nI 0), ?_, ?_, fin (G_open G1 (by decide) (by decide)), up_ne (by show ¬ (e = e + 12 ∧ _); omega)⟩
        · unfold dO
          rw [if_neg (by decide), if_neg (by decide), if_neg (by decide), if_neg (by decide), if_neg (by decide), if_pos (by decide)]
          rfl
        · rw [dM_5]; exact m_201 (by decide) 0
      · obtain ⟨μ', s', t1, t2, t3, t4⟩ := sim_enter (n := n) G1
        refine ⟨μ', s', ?_, ?_, fin t3, t4 _ _ (by omega)⟩
        · unfold dO
          rw [if_neg (by decide), if_neg (by decide), if_neg (by decide), if_neg (by decide), if_neg (by decide), if_neg (by decide), if_pos (by decide), t1]
          rfl
        · rw [dM_O _ _ _ _ _ _ (by decide) (by decide), F_X11_actOuter, if_pos (by decide), t2]; rfl
      · obtain ⟨t1, s', t2, L3', L2', t3⟩ := sim_put1 (n := n) hn G1 hh h151 (p := x) (f := y) (r := 7) (by omega) (hk1 (by decide)) (by decide)
        have t1' : F_X3_tellInner n e (nI x) (nI y) 7 μ1 = _ := t1
        have t2' : F_X11_layEntry n m 1 (nI x) (nI y) 7 s1 = _ := t2
        refine ⟨_, s', ?_, ?_, ⟨_, _, G_mono t3 (by omega) hb⟩, ?_⟩
        · unfold dO
          rw [if_neg (by decide), if_neg (by decide), if_neg (by decide), if_neg (by decide), if_neg (by decide), if_neg (by decide), if_neg (by decide), if_pos (by decide), t1']
          rfl
        · rw [dM_O _ _ _ _ _ _ (by decide) (by decide), F_X11_actOuter, if_neg (by decide), if_pos (by decide), t2']; rfl
        · rw [cuf_ne (by omega)]
          unfold cput
          rw [up_ne (by omega), up_ne (by omega), up_ne (by omega), up_ne (by omega)]
      · have hgi : gg_is s1 m 2 (1 + h) := Or.inr ⟨rfl, h, hh, h151, rfl⟩
        obtain ⟨t1, s', t2, t3⟩ := sim_pend (n := n) G1 hgi (v := x) (by omega)
        have gr := gg_c1 h
        rw [show e + gg_c (1 + h) = e + 37 + 15 * h + 1 by omega] at t1
        refine ⟨_, s', ?_, ?_, fin t3, cpd_ne (by omega) (by omega)⟩
        · unfold dO
          rw [if_neg (by decide), if_neg (by decide), if_neg (by decide), if_neg (by decide), if_neg (by decide), if_neg (by decide), if_neg (by decide), if_neg (by decide), if_pos (by decide), c_inHand hh h51, Option.bind_some, t1]
          rfl
        · rw [dM_O _ _ _ _ _ _ (by decide) (by decide), F_X11_actOuter, if_neg (by decide), if_neg (by decide), if_pos (by decide), t2]; rfl
      · have m16 : s1 (m + 1) 16 = μ1 e 12 := G_rd G1 (i := 16) (c := 0) (j := 12) (by decide +kernel)
        rcases G_n1 G1 (i := 16) (c := 0) (j := 12) (by decide +kernel) (n := 15) (by decide +kernel) with ⟨q1, q2⟩ | ⟨q, hq, q1, q2⟩
        · have q1' : μ1 e 12 = -1 := q1
          refine ⟨μ1, s1, ?_, ?_, fin G1, rfl⟩
          · unfold dO
            rw [if_neg (by decide), if_neg (by decide), if_neg (by decide), if_neg (by decide), if_neg (by decide), if_neg (by decide), if_neg (by decide), if_neg (by decide), if_neg (by decide), if_pos (by decide), F_X3_tellMissed, if_pos q1']
            rfl
          · rw [dM_O _ _ _ _ _ _ (by decide) (by decide), F_X11_actOuter, if_neg (by decide), if_neg (by decide), if_neg (by decide), if_pos (by decide), if_pos q2]; rfl
        · have q1' : μ1 e 12 = nI q := q1
          have hne : ¬ nI q = -1 := by rw [nI_m1 (by omega)]; exact id
          obtain ⟨t1, s', t2, L3', L2', t3⟩ := sim_put1 (n := n) hn G1 hh h151 (p := q) (f := x) (r := 7) (by omega) hx (by decide)
          have t1' : F_X3_tellInner n e (nI q) (nI x) 7 μ1 = _ := t1
          have t2' : F_X11_layEntry n m 1 (nI q) (nI x) 7 s1 = _ := t2
          refine ⟨_, s', ?_, ?_, ⟨_, _, G_mono t3 (by omega) hb⟩, ?_⟩
          · unfold dO
            rw [if_neg (by decide), if_neg (by decide), if_neg (by decide), if_neg (by decide), if_neg (by decide), if_neg (by decide), if_neg (by decide), if_neg (by decide), if_neg (by decide), if_pos (by decide), F_X3_tellMissed, q1', if_neg hne, t1']
            rfl
          · rw [dM_O _ _ _ _ _ _ (by decide) (by decide), F_X11_actOuter, if_neg (by decide), if_neg (by decide), if_neg (by decide), if_pos (by decide), q2, if_neg hne, t2']; rfl
          · rw [cuf_ne (by omega)]
            unfold cput
            rw [up_ne (by omega), up_ne (by omega), up_ne (by omega), up_ne (by omega)]
      · obtain ⟨r, μ', s', t1, t2, t3, t4⟩ := sim_end (n := n) hn G1 (gu := 1) (g := 0) (Or.inl ⟨rfl, rfl⟩)
        have t1' : F_X0_endService n (e + 12) μ1 = some (r, μ') := t1
        refine ⟨μ', s', ?_, ?_, fin t3, t4 _ _ (by show ¬ (e = e + 12 ∧ _); omega)⟩
        · unfold dO
          rw [if_neg (by decide), if_neg (by decide), if_neg (by decide), if_neg (by decide), if_neg (by decide), if_neg (by decide), if_neg (by decide), if_neg (by decide), if_neg (by decide), if_neg (by decide), if_pos (by decide), t1']
          rfl
        · rw [dM_O _ _ _ _ _ _ (by decide) (by decide), F_X11_actOuter, if_neg (by decide), if_neg (by decide), if_neg (by decide), if_neg (by decide), if_pos (by decide), t2]; rfl
      · by_cases hsw : x = h
        · subst hsw
          refine ⟨μ1, s1, ?_, ?_, fin G1, rfl⟩
          · unfold dO
            rw [if_neg (by decide), if_neg (by decide), if_neg (by decide), if_neg (by decide), if_neg (by decide), if_neg (by decide), if_neg (by decide), if_neg (by decide), if_neg (by decide), if_neg (by decide), if_neg (by decide), if_pos (by decide), F_X3_switchUnlessInHand, if_pos h51.symm]
            rfl
          · rw [dM_O _ _ _ _ _ _ (by decide) (by decide), F_X11_actOuter, if_neg (by decide), if_neg (by decide), if_neg (by decide), if_neg (by decide), if_neg (by decide), if_pos h151]; rfl
        · have hx2 := hk11 rfl
          obtain ⟨μ', s', t1, t2, ⟨L3', L2', t3⟩, t4⟩ := sim_switch (n := n) hn G1 (h' := x) (by omega)
          refine ⟨μ', s', ?_, ?_, ⟨_, _, G_mono t3 (by omega) hb⟩, t4 _ _ (by omega) (by omega) (by omega)⟩
          · unfold dO
            rw [if_neg (by decide), if_neg (by decide), if_neg (by decide), if_neg (by decide), if_neg (by decide), if_neg (by decide), if_neg (by decide), if_neg (by decide), if_neg (by decide), if_neg (by decide), if_neg (by decide), if_pos (by decide), F_X3_switchUnlessInHand, h51, if_neg (fun c => hsw (nI_inj (by omega) (by omega) c)), t1]
            rfl
          · rw [dM_O _ _ _ _ _ _ (by decide) (by decide), F_X11_actOuter, if_neg (by decide), if_neg (by decide), if_neg (by decide), if_neg (by decide), if_neg (by decide), h151, if_neg (fun c => hsw (nI_inj (by omega) (by omega) c).symm), t2]; rfl
theorem sim_actI (hn : 1000 ≤ n) (hG : G b e m K N L3 L2 μ s) (hb : b + 21 < 2 ^ 28) (hl : μ e 6 = 2) : ∃ μ' s', F_X3_actOfInner n e μ = some μ' ∧ F_X11_actNow n m s = some s' ∧ Gs (b + 20) e m K N μ' s' ∧ μ' e 7 = μ e 7 := by
  obtain ⟨h, hh, h5, h15⟩ := G_hand hG
  have hlv : s (m + 1) 2 = 2 := (G_level hG).1.trans hl
  have hg : gg_is s m 2 (1 + h) := Or.inr ⟨rfl, h, hh, h15, rfl⟩
  have gr := gg_c1 h
  obtain ⟨M, hM24, cM, sM⟩ := G_many hG (g := 1 + h) (by omega)
  by_cases hM0 : M = 0
  · subst hM0
    refine ⟨μ, s, ?_, m_act0 hlv hg sM, ⟨L3, L2, G_mono hG (by omega) (by omega)⟩, rfl⟩
    rw [show e + (gg_c (1 + h) + 1) = e + 37 + 15 * h + 2 by omega] at cM
    rw [F_X3_actOfInner, c_inHand hh h5, Option.bind_some, cM, if_neg (by decide)]
  · obtain ⟨p, k, x, y, hp, c4, s4, ca, cx, cy, sa, sx, sy, hk, hx, hy, hk3, -, hk1, hk9⟩ := G_act hG (g := 1 + h) (by omega) sM hM0 hM24
    have hk9' := hk9 (by omega)
    have hA := c_actI (n := n) hh h5 cM hM0 hM24 hp c4 ca cx cy
    have mA := m_actNow (n := n) hlv hg sM hM0 hM24 hp s4 sa sx sy
    have hpl : (p + 1) % M < M := Nat.mod_lt _ (by omega)
    have G1 := G_place hG (g := 1 + h) (p := (p + 1) % M) (by omega) (by omega) (by rw [sM, nI_toInt (by omega)]; omega)
    rw [hA, mA]
    have e1 : ∀ j, gw_up μ (e + (gg_c (1 + h) + 1)) 4 (nI ((p + 1) % M)) e j = μ e j := fun j => up_ne (by omega)
    have l1 : gw_up s (m + 1) (63 + 162 * (1 + h)) (nI ((p + 1) % M)) (m + 1) 2 = 2 := by rw [up_ne (by omega)]; exact hlv
    have sM1 : gw_up s (m + 1) (63 + 162 * (1 + h)) (nI ((p + 1) % M)) (m + 1) (64 + 162 * (1 + h)) = nI M := by rw [up_ne (by omega)]; exact sM
    generalize gw_up μ (e + (gg_c (1 + h) + 1)) 4 (nI ((p + 1) % M)) = μ1 at G1 e1 ⊢
    generalize gw_up s (m + 1) (63 + 162 * (1 + h)) (nI ((p + 1) % M)) = s1 at G1 l1 sM1 ⊢
    have h51 : μ1 e 5 = nI h := by rw [e1]; exact h5
    have h151 := G_s15 G1 h51
    rw [← e1 7]
    have fin : ∀ {μ' s' : gw_M}, G b e m K N L3 L2 μ' s' → Gs (b + 20) e m K N μ' s' := fun g => ⟨_, _, G_mono g (by omega) (by omega)⟩
    have hgi : gg_is s1 m 2 (1 + h) := Or.inr ⟨rfl, h, hh, h151, rfl⟩
    have ga : F_X11_guestAt n m 2 s1 = some (nI (58 + 162 * (1 + h))) := (m_guestAt (n := n) hgi).1
    obtain ⟨j1, j2, j3, j4, j5, j6⟩ := gd_i3 h hh
    have i144 : nI (58 + 162 * (1 + h)) + (144 : Int32) = nI (364 + 162 * h) := by rw [show (144 : Int32) = nI 144 from rfl, nI_add]; congr 1; omega
    have i145 : nI (364 + 162 * h) + (1 : Int32) = nI (365 + 162 * h) := by rw [nI_1]; congr 1; omega
    have i5 : nI (58 + 162 * (1 + h)) + (5 : Int32) = nI (63 + 162 * (1 + h)) := by rw [show (5 : Int32) = nI 5 from rfl, nI_add]; congr 1; omega
    have put0 : ∀ {q f : Nat}, q < 16 → f ≤ 15 → ∃ μ' s', F_X8_put n (e + 37 + 15 * h + 7) (nI q) (nI f) 7 μ1 = some μ' ∧ F_X11_layEntry n m 0 (nI q) (nI f) 7 s1 = some s' ∧ G b e m K N L3 L2 μ' s' ∧ μ' e 7 = μ1 e 7 := by
      intro q f hq hf
      have hm1 : ¬ nI f = -1 := by rw [nI_m1 (by omega)]; exact id
      have ml := m_lay0 (n := n) hh h151 hq (to := nI f) (rt := 7)
      rw [if_neg hm1] at ml
      refine ⟨_, _, c_put hq, ml, ?_, ?_⟩
      · have := lay01_put G1 hh (t := 0) (by decide) h151 (p := q) (f := f) (r := 7) hq hf (by decide) (fun c => absurd c (by decide))
        rw [show e + (44 + 15 * h + 4 * 0) = e + 37 + 15 * h + 7 by omega] at this
        exact this
      · unfold cput
        rw [up_ne (by omega), up_ne (by omega), up_ne (by omega), up_ne (by omega)]
    by_cases hk2 : k < 3
    · rw [dI_t _ _ _ _ _ _ hk2, dM_t _ _ _ _ _ _ _ hk2]
      obtain ⟨r, μ2, s2, t1, t2, ⟨L3', L2', t3⟩, t4, t5⟩ := sim_tI (n := n) hn G1 hb (by rw [e1]; exact hl) hh h51 (p := x) (w := k) (by omega) hk2 (v := nI y) (fun _ => ⟨y, hy, rfl⟩)
      have hsz : s2 (m + 1) (64 + 162 * (1 + h)) = nI M := by
        rw [G_rd t3 (gd_g (1 + h) (by omega)).2.2.2.2.2.2, t4 _ _ (by unfold tf; omega) (by omega) (by omega), ← G_rd G1 (gd_g (1 + h) (by omega)).2.2.2.2.2.2]
        exact sM1
      have w1 : ∀ j, μ2 (e + 19) j = μ1 (e + 19) j := fun j => t4 _ _ (by unfold tf; omega) (by omega) (by omega)
      obtain ⟨μ', s', d1, d2, d3, d4⟩ := sim_lead (n := n) t3 hh hsz hM24 hp (r := r) (o := if r = -2 ∧ sr (μ2 (e + 19) 1) (μ2 (e + 19) 0) 0 = 2 then 1 else 0) rfl
      obtain ⟨c, hc, c1, c2⟩ := G_nb G1 (i := 7) (c := 25) (j := 9) (by decide +kernel) (by decide +kernel)
      have q7 : s2 (m + 1) 7 = μ2 (e + 25) 9 := G_rd t3 (i := 7) (c := 25) (j := 9) (by decide +kernel)
      refine ⟨μ', s', ?_, ?_, ⟨_, _, d3⟩, by rw [d4]; exact t4 _ _ (Or.inl ⟨rfl, by decide, by decide⟩) (by omega) (by omega)⟩
      · rw [F_X3_actOfInner_100, t1, bi_some, d1]; rfl
      · rw [F_X11_touchNow, if_pos (show ¬ s1 (m + 1) 2 = 1 by rw [l1]; decide), t2, bi_some, bi_some, q7, c2, t5, c1]
        rw [w1, w1] at d2
        by_cases hc2 : r = -2 ∧ sr (μ1 (e + 19) 1) (μ1 (e + 19) 0) 0 = 2
        · rw [if_pos hc2] at d2 ⊢
          rw [nI_1, if_neg (nI_ge (by omega) (by omega)), F_X11_actNow_154, if_pos (Or.inr rfl), d2]
          rfl
        · rw [if_neg hc2] at d2 ⊢
          rw [if_pos (Int32.le_iff_toInt_le.mpr (Int.le_refl _)), F_X11_actNow_154, if_pos (Or.inl rfl), d2]
          rfl
    · have hkc : k = 3 ∨ k = 4 ∨ k = 5 ∨ k = 6 ∨ k = 7 ∨ k = 8 ∨ k = 9 := by omega
      rcases hkc with rfl | rfl | rfl | rfl | rfl | rfl | rfl
      · obtain ⟨r, μ', s', t1, t2, t3, -, t4⟩ := sim_evI (n := n) hn G1 (by omega) (by rw [e1]; exact hl) (k := x) (by have := hk3 rfl; omega)
        refine ⟨μ', s', ?_, ?_, ⟨_, _, G_mono t3 (by omega) (by omega)⟩, t4 _ _ (by unfold ef; omega)⟩
        · unfold dI
          rw [if_neg (by decide), if_neg (by decide), if_neg (by decide), if_pos (by decide), t1]
          rfl
        · rw [dM_3, t2]; rfl
      · refine ⟨gw_up μ1 (e + gg_c (1 + h)) 4 (nI 1), gw_up s1 (m + 1) (60 + 162 * (1 + h)) (nI 1), ?_, ?_, fin (G_open G1 (by omega) (by decide)), up_ne (by omega)⟩
        · unfold dI
          rw [if_neg (by decide), if_neg (by decide), if_neg (by decide), if_neg (by decide), if_pos (by decide), show e + 37 + 15 * h + 1 = e + gg_c (1 + h) by omega]
          rfl
        · rw [dM_4]; exact m_201 (by omega) 1
      · refine ⟨gw_up μ1 (e + gg_c (1 + h)) 4 (nI 0), gw_up s1 (m + 1) (60 + 162 * (1 + h)) (nI 0), ?_, ?_, fin (G_open G1 (by omega) (by decide)), up_ne (by omega)⟩
        · unfold dI
          rw [if_neg (by decide), if_neg (by decide), if_neg (by decide), if_neg (by decide), if_neg (by decide), if_pos (by decide), show e + 37 + 15 * h + 1 = e + gg_c (1 + h) by omega]
          rfl
        · rw [dM_5]; exact m_201 (by omega) 0
      · obtain ⟨μ', s', t1, t2, t3, t4⟩ := put0 (q := x) (f := y) (by omega) (hk1 (by decide))
        refine ⟨μ', s', ?_, ?_, fin t3, t4⟩
        · unfold dI
          rw [if_neg (by decide), if_neg (by decide), if_neg (by decide), if_neg (by decide), if_neg (by decide), if_neg (by decide), if_pos (by decide), F_X3_actOfInner_162, F_X1_actAlone, if_neg (by decide), t1]
          rfl
        · rw [dM_I _ _ _ _ _ _ (by decide) (by decide), F_X11_actInner, ga, Option.bind_some, if_pos (by decide), t2]; rfl
      · obtain ⟨r, μ', s', t1, t2, t3, t4⟩ := sim_end (n := n) hn G1 hgi
        rw [show e + gg_c (1 + h) = e + 37 + 15 * h + 1 by omega] at t1
        refine ⟨μ', s', ?_, ?_, fin t3, t4 _ _ (by omega)⟩
        · unfold dI
          rw [if_neg (by decide), if_neg (by decide), if_neg (by decide), if_neg (by decide), if_neg (by decide), if_neg (by decide), if_neg (by decide), if_pos (by decide), t1]
          rfl
        · rw [dM_I _ _ _ _ _ _ (by decide) (by decide), F_X11_actInner, ga, Option.bind_some, if_neg (by decide), if_pos (by decide), t2]; rfl
      · have m364 := G_rd G1 j2
        rcases G_n1 G1 j2 (n := 15) j5 with ⟨q1, q2⟩ | ⟨q, hq, q1, q2⟩
        · rw [show e + (37 + 15 * h) = e + 37 + 15 * h by omega] at q1
          refine ⟨μ1, s1, ?_, ?_, fin G1, rfl⟩
          · unfold dI
            rw [if_neg (by decide), if_neg (by decide), if_neg (by decide), if_neg (by decide), if_neg (by decide), if_neg (by decide), if_neg (by decide), if_neg (by decide), F_X3_actOfInner_162, F_X1_actAlone, if_pos (by decide), if_neg (by decide), if_pos q1, F_X1_actAlone_51, if_pos (by decide)]
            rfl
          · rw [dM_I _ _ _ _ _ _ (by decide) (by decide), F_X11_actInner, ga, Option.bind_some, if_neg (by decide), if_neg (by decide), if_pos (by decide), i144, nI_clamp (by omega), if_pos ⟨nI_pos' (by omega), by omega⟩, if_pos q2]; rfl
        · rw [show e + (37 + 15 * h) = e + 37 + 15 * h by omega] at q1
          have hne : ¬ nI q = -1 := by rw [nI_m1 (by omega)]; exact id
          obtain ⟨μ', s', t1, t2, t3, t4⟩ := put0 (q := q) (f := x) (by omega) hx
          refine ⟨μ', s', ?_, ?_, fin t3, t4⟩
          · unfold dI
            rw [if_neg (by decide), if_neg (by decide), if_neg (by decide), if_neg (by decide), if_neg (by decide), if_neg (by decide), if_neg (by decide), if_neg (by decide), F_X3_actOfInner_162, F_X1_actAlone, if_pos (by decide), if_neg (by decide), q1, if_neg hne, t1]
            rfl
          · rw [dM_I _ _ _ _ _ _ (by decide) (by decide), F_X11_actInner, ga, Option.bind_some, if_neg (by decide), if_neg (by decide), if_pos (by decide), i144, nI_clamp (by omega), if_pos ⟨nI_pos' (by omega), by omega⟩, q2, if_neg hne, if_pos ⟨nI_pos' (by omega), by omega⟩, t2]; rfl
      · have h3 : μ1 (e + (gg_c (1 + h) + 1)) 3 = nI M := (G_rd G1 (gd_g (1 + h) (by omega)).2.2.2.2.2.2).symm.trans sM1
        have hv := G_rd G1 j3
        rw [show e + (37 + 15 * h) = e + 37 + 15 * h by omega] at hv
        have G2 := sim_goTo G1 (g := 1 + h) (by omega) hM24 sM1 (μ1 (e + 37 + 15 * h) 5)
        refine ⟨_, _, ?_, ?_, fin G2, ?_⟩
        · unfold dI
          rw [if_neg (by decide), if_neg (by decide), if_neg (by decide), if_neg (by decide), if_neg (by decide), if_neg (by decide), if_neg (by decide), if_neg (by decide), F_X3_actOfInner_162, F_X1_actAlone, if_pos (by decide), if_pos (by decide), F_X1_actAlone_51, if_neg (by decide), c_goToI hM24 h3]
          rfl
        · rw [dM_I _ _ _ _ _ _ (by decide) (by decide), F_X11_actInner, ga, Option.bind_some, if_neg (by decide), if_neg (by decide), if_neg (by decide), i144, i145, nI_clamp (show 365 + 162 * h < 2 ^ 31 by omega), if_pos ⟨nI_pos' (by omega), by omega⟩, hv, m_hasPlace (by omega) sM1, Option.bind_some, i5, nI_clamp (show 63 + 162 * (1 + h) < 2 ^ 31 by omega)]
          by_cases hz : isin (μ1 (e + 37 + 15 * h) 5) 0 (nI M - 1) = 0
          · simp only [if_pos hz]
            rfl
          · simp only [if_neg hz]
            rw [if_pos ⟨nI_pos' (by omega), by omega⟩, if_pos ⟨nI_pos' (by omega), by omega⟩]
            rfl
        · split
          · rfl
          · exact up_ne (by omega)
/-- gone, once -/
theorem sim_goOn (hn : 1000 ≤ n) (hG : Gs b e m K N μ s) (hb : b + 41 < 2 ^ 28) {t : Nat} (ht : t < 99999) (h7 : μ e 7 = nI t) : ∃ μ' s', F_X3_goOn n e μ = some μ' ∧ F_X11_goNow n m s = some s' ∧ Gs (b + 40) e m K N μ' s' ∧ μ' e 7 = nI (t + 1) := by
  obtain ⟨L3, L2, hG⟩ := hG
  obtain ⟨r, μ1, s1, a1, a2, a3, a4⟩ := sim_tick (n := n) hn hG (by omega) ht h7
  obtain ⟨μ2, s2, b1, b2, b3, b4⟩ := sim_do (n := n) hn a3 (by omega)
  have b7 : μ2 e 7 = nI (t + 1) := by rw [b4 _ _ (by unfold dfr; omega)]; exact a4
  have last : ∀ {μ3 s3 : gw_M}, Gs (b + 37) e m K N μ3 s3 → μ3 e 7 = nI (t + 1) → ∃ μ' s', F_X3_dealOut n e μ3 = some μ' ∧ F_X11_dealOut n m s3 = some s' ∧ Gs (b + 40) e m K N μ' s' ∧ μ' e 7 = nI (t + 1) := by
    rintro μ3 s3 ⟨L3', L2', g⟩ g7
    obtain ⟨μ', s', z1, z2, z3, z4⟩ := sim_do (n := n) hn g (by omega)
    exact ⟨μ', s', z1, z2, ⟨_, _, z3⟩, by rw [z4 _ _ (by unfold dfr; omega)]; exact g7⟩
  simp only [F_X3_goOn, F_X11_goNow, a1, a2, bi_some, b1, b2, Option.bind_some]
  rcases (G_level b3).2 with hl | hl
  · obtain ⟨μ3, s3, c1, c2, c3, c4⟩ := sim_actO (n := n) hn b3 (by omega) hl
    obtain ⟨μ', s', z1, z2, z3, z4⟩ := last c3 (by rw [c4]; exact b7)
    refine ⟨μ', s', ?_, ?_, z3, z4⟩
    · rw [if_neg (not_not_intro hl), c1, Option.bind_some, z1, Option.bind_some]
    · rw [c2, Option.bind_some, z2, Option.bind_some]
  · obtain ⟨μ3, s3, c1, c2, c3, c4⟩ := sim_actI (n := n) hn b3 (by omega) hl
    obtain ⟨μ', s', z1, z2, z3, z4⟩ := last c3 (by rw [c4]; exact b7)
    refine ⟨μ', s', ?_, ?_, z3, z4⟩
    · rw [if_pos (by rw [hl]; decide), c1, Option.bind_some, z1, Option.bind_some]
    · rw [c2, Option.bind_some, z2, Option.bind_some]
end ACT2
