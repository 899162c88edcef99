/-! ===== tables 0 and 1, and the room ===== -/
def Gs (b e m : Nat) (K N : gw_M) (μ s : gw_M) : Prop := ∃ L3 L2, G b e m K N L3 L2 μ s
def gd_cP (z : Nat) : Bool := decide (gd (gd_v (47 + 15 * (z / 32) + 4 * (z / 16 % 2)) (z % 16)) ≠ some (47 + 15 * (z / 32) + 4 * (z / 16 % 2), z % 16)) && decide (gd (gd_v (44 + 15 * (z / 32) + 4 * (z / 16 % 2)) 3) ≠ some (44 + 15 * (z / 32) + 4 * (z / 16 % 2), 3)) && (List.range 9).all (fun k => !nb k (47 + 15 * (z / 32) + 4 * (z / 16 % 2)) (z % 16) && !nb k (44 + 15 * (z / 32) + 4 * (z / 16 % 2)) 3 && (decide (k = 0) || decide (k = 8) || (!na k (299 + 162 * (z / 32) + 32 * (z / 16 % 2) + 2 * (z % 16)) && !na k (300 + 162 * (z / 32) + 32 * (z / 16 % 2) + 2 * (z % 16)))))
theorem gd_c0 : ∀ z < 96, gd_cP z = true := by decide +kernel
theorem gd_c {h t p : Nat} (hh : h < 3) (ht : t < 2) (hp : p < 16) : (∀ i, gd i ≠ some (47 + 15 * h + 4 * t, p)) ∧ (∀ i, gd i ≠ some (44 + 15 * h + 4 * t, 3)) ∧ ∀ k, k < 9 → nb k (47 + 15 * h + 4 * t) p = false ∧ nb k (44 + 15 * h + 4 * t) 3 = false ∧ (k = 0 ∨ k = 8 ∨ (na k (299 + 162 * h + 32 * t + 2 * p) = false ∧ na k (300 + 162 * h + 32 * t + 2 * p) = false)) := by
  have h1 := gd_c0 (32 * h + 16 * t + p) (by omega)
  unfold gd_cP at h1
  rw [show (32 * h + 16 * t + p) / 32 = h by omega, show (32 * h + 16 * t + p) / 16 % 2 = t by omega, show (32 * h + 16 * t + p) % 16 = p by omega] at h1
  simp only [Bool.and_eq_true, decide_eq_true_eq, List.all_eq_true, List.mem_range, Bool.or_eq_true, Bool.not_eq_true'] at h1
  refine ⟨gd_no h1.1.1, gd_no h1.1.2, fun k hk => ?_⟩
  obtain ⟨⟨a1, a2⟩, a3⟩ := h1.2 k hk
  refine ⟨a1, a2, ?_⟩
  rcases a3 with (a3 | a3) | a3
  · exact Or.inl a3
  · exact Or.inr (Or.inl a3)
  · exact Or.inr (Or.inr a3)
section LAY01
variable {b e m n h t : Nat} {K N : gw_M} {L3 L2 L : List Nat} {μ s : gw_M} {P : Nat → Bool}
theorem core_lay01 (hG : G b e m K N L3 L2 μ s) (hh : h < 3) (ht : t < 2) (h1 : s (m + 1) 15 = nI h) {p : Nat} (hp : p < 16) {to rt : Int32} (hv : (to = -1 ∧ rt = 0) ∨ ((∃ f, f ≤ 15 ∧ to = nI f) ∧ ∃ r, r ≤ 7 ∧ rt = nI r)) (hF : t = 1 → s (m + 1) (754 + 2 * p) = -1) : G b e m K N L3 L2 (gw_up (gw_up μ (e + (45 + 15 * h + 4 * t)) p to) (e + (46 + 15 * h + 4 * t)) p rt) (gw_up (gw_up s (m + 1) (299 + 162 * h + 32 * t + 2 * p) to) (m + 1) (300 + 162 * h + 32 * t + 2 * p) rt) := by
  obtain ⟨d1, d2, d3, d4⟩ := gd_e hh ht hp
  have v1 : gq_r b (299 + 162 * h + 32 * t + 2 * p) to := by
    rcases hv with ⟨rfl, -⟩ | ⟨⟨f, hf, rfl⟩, -⟩
    · exact gq_m1 d3 (by decide)
    · exact gq_nI (n := 15) d3 (by decide) hf (by decide)
  have v2 : gq_r b (300 + 162 * h + 32 * t + 2 * p) rt := by
    rcases hv with ⟨-, rfl⟩ | ⟨-, r, hr, rfl⟩
    · exact gq_nI (k := 0) (n := 7) d4 (by decide) (by decide) (by decide)
    · exact gq_nI (n := 7) d4 (by decide) hr (by decide)
  have X := GX_up (GX_up (GX_of hG) d1 v1) d2 v2
  have s2d : ∃ s2, s2 = gw_up (gw_up s (m + 1) (299 + 162 * h + 32 * t + 2 * p) to) (m + 1) (300 + 162 * h + 32 * t + 2 * p) rt := ⟨_, rfl⟩
  obtain ⟨s2, hs2⟩ := s2d
  rw [← hs2] at X ⊢
  have ro : ∀ i, i ≠ 299 + 162 * h + 32 * t + 2 * p → i ≠ 300 + 162 * h + 32 * t + 2 * p → s2 (m + 1) i = s (m + 1) i := fun i a1 a2 => by rw [hs2, up_ne (by omega), up_ne (by omega)]
  have rp : s2 (m + 1) (299 + 162 * h + 32 * t + 2 * p) = to ∧ s2 (m + 1) (300 + 162 * h + 32 * t + 2 * p) = rt := by
    rw [hs2, up_ne (by omega), up_eq ⟨rfl, rfl⟩, up_eq ⟨rfl, rfl⟩]
    exact ⟨rfl, rfl⟩
  refine GX_end (E := fun k => decide (k = 0) || decide (k = 8)) (GX_E X (fun k hk hE => ?_)) (fun _ => rfl) (fun _ => rfl) (fun k hk hE => ?_)
  · simp only [Bool.or_eq_false_iff, decide_eq_false_iff_not] at hE
    rcases ((gd_c hh ht hp).2.2 k hk).2.2 with h0 | h0 | ⟨w1, w2⟩
    · exact absurd h0 hE.1
    · exact absurd h0 hE.2
    · simp only [w1, w2, Bool.or_false]
  · have hk3 : k = 0 ∨ k = 8 := by simpa using hE
    rcases hk3 with rfl | rfl
    · intro z hz
      obtain ⟨t1, t2, t3⟩ := G_q hG 0 (by decide) z hz
      refine ⟨?_, ?_, fun h' t' hh' ht' => ?_⟩
      · rw [ro _ (by omega) (by omega), ro _ (by omega) (by omega)]; exact t1
      · rw [ro _ (by omega) (by omega), ro _ (by omega) (by omega)]; exact t2
      · by_cases hc : 299 + 162 * h' + 32 * t' + 2 * z = 299 + 162 * h + 32 * t + 2 * p
        · have hc2 : 300 + 162 * h' + 32 * t' + 2 * z = 300 + 162 * h + 32 * t + 2 * p := by omega
          rw [hc, hc2, rp.1, rp.2]
          rcases hv with ⟨-, h2⟩ | ⟨⟨f, hf, h2⟩, -⟩
          · exact fun _ => h2
          · intro c
            rw [h2, nI_m1 (by omega)] at c
            exact c.elim
        · rw [ro _ hc (by omega), ro _ (by omega) (by omega)]; exact t3 h' t' hh' ht'
    · obtain ⟨f1, f2⟩ := G_q hG 8 (by decide)
      refine ⟨fun h' hh' hn z hz hfz => ?_, by rw [ro 4 (by omega) (by omega)]; exact f2⟩
      rw [ro 15 (by omega) (by omega)] at hn
      have := nI_inj (by omega) (by omega) (h1.symm.trans hn)
      subst this
      rw [ro _ (by omega) (by omega)] at hfz
      obtain ⟨q, hq, a1, a2, a3⟩ := f1 h hh hn z hz hfz
      have hne : t = 1 → z ≠ p := by
        rintro h2 rfl
        exact hfz (hF h2)
      have hne2 : 331 + 162 * h + 2 * z ≠ 299 + 162 * h + 32 * t + 2 * p ∧ 332 + 162 * h + 2 * z ≠ 300 + 162 * h + 32 * t + 2 * p := by
        have : t = 0 ∨ t = 1 := by omega
        rcases this with rfl | rfl
        · omega
        · have := hne rfl
          omega
      refine ⟨q, hq, by rw [ro _ hne2.1 (by omega)]; exact a1, by rw [ro _ (by omega) (by omega), ro _ (by omega) (by omega)]; exact a2, ?_⟩
      rw [ro _ (by omega) (by omega), ro _ (by omega) hne2.2, a3]
      unfold gr_2
      rw [ro 27 (by omega) (by omega), ro _ (by omega) (by omega)]
theorem lay01_put (hG : G b e m K N L3 L2 μ s) (hh : h < 3) (ht : t < 2) (h1 : s (m + 1) 15 = nI h) {p f r : Nat} (hp : p < 16) (hf : f ≤ 15) (hr : r ≤ 7) (hF : t = 1 → s (m + 1) (754 + 2 * p) = -1) : G b e m K N L3 L2 (cput (e + (44 + 15 * h + 4 * t)) p (nI f) (nI r) μ) (gw_up (gw_up s (m + 1) (299 + 162 * h + 32 * t + 2 * p) (nI f)) (m + 1) (300 + 162 * h + 32 * t + 2 * p) (nI r)) := by
  have G1 := core_lay01 hG hh ht h1 hp (to := nI f) (rt := nI r) (Or.inr ⟨⟨f, hf, rfl⟩, ⟨r, hr, rfl⟩⟩) hF
  obtain ⟨c1, c2, c3⟩ := gd_c hh ht hp
  have X := GX_c (GX_c (GX_of G1) (c := 47 + 15 * h + 4 * t) (j := p) (by omega) c1 (μ (e + (44 + 15 * h + 4 * t)) 3)) (c := 44 + 15 * h + 4 * t) (j := 3) (by omega) c2 (μ (e + (44 + 15 * h + 4 * t)) 3 + 1)
  have hmu : cput (e + (44 + 15 * h + 4 * t)) p (nI f) (nI r) μ = gw_up (gw_up (gw_up (gw_up μ (e + (45 + 15 * h + 4 * t)) p (nI f)) (e + (46 + 15 * h + 4 * t)) p (nI r)) (e + (47 + 15 * h + 4 * t)) p (μ (e + (44 + 15 * h + 4 * t)) 3)) (e + (44 + 15 * h + 4 * t)) 3 (μ (e + (44 + 15 * h + 4 * t)) 3 + 1) := by
    unfold cput
    rw [show e + (44 + 15 * h + 4 * t) + 1 = e + (45 + 15 * h + 4 * t) by omega, show e + (44 + 15 * h + 4 * t) + 2 = e + (46 + 15 * h + 4 * t) by omega, show e + (44 + 15 * h + 4 * t) + 3 = e + (47 + 15 * h + 4 * t) by omega]
  rw [hmu]
  refine GX_end (E := fun _ => false) (GX_E X (fun k hk _ => ?_)) (fun _ => rfl) (fun _ => rfl) (fun k hk hE => by simp at hE)
  obtain ⟨w1, w2, -⟩ := c3 k hk
  simp only [w1, w2, Bool.or_false]
theorem lay01_drop (hG : G b e m K N L3 L2 μ s) (hh : h < 3) (ht : t < 2) (h1 : s (m + 1) 15 = nI h) {p : Nat} (hp : p < 16) (hF : t = 1 → s (m + 1) (754 + 2 * p) = -1) : G b e m K N L3 L2 (cdrop (e + (44 + 15 * h + 4 * t)) p μ) (gw_up (gw_up s (m + 1) (299 + 162 * h + 32 * t + 2 * p) (-1)) (m + 1) (300 + 162 * h + 32 * t + 2 * p) 0) := by
  have G1 := core_lay01 hG hh ht h1 hp (to := -1) (rt := 0) (Or.inl ⟨rfl, rfl⟩) hF
  unfold cdrop
  rw [show e + (44 + 15 * h + 4 * t) + 1 = e + (45 + 15 * h + 4 * t) by omega, show e + (44 + 15 * h + 4 * t) + 2 = e + (46 + 15 * h + 4 * t) by omega]
  exact G1
theorem m_lay0 (hh : h < 3) (h1 : s (m + 1) 15 = nI h) {p : Nat} (hp : p < 16) {to rt : Int32} : F_X11_layEntry n m 0 (nI p) to rt s = some (gw_up (gw_up s (m + 1) (299 + 162 * h + 32 * 0 + 2 * p) to) (m + 1) (300 + 162 * h + 32 * 0 + 2 * p) (if to = -1 then 0 else rt)) := by
  have a1 := m_entry01 (n := n) hh h1 (t := 0) (by decide) hp
  have a2 := m_entry01 (n := n) (s := gw_up s (m + 1) (299 + 162 * h + 32 * 0 + 2 * p) to) hh (by rw [up_ne (by omega)]; exact h1) (t := 0) (by decide) hp
  have a1' : F_X11_entryAt n m 0 (nI p) s = _ := a1
  have a2' : F_X11_entryAt n m 0 (nI p) (gw_up s (m + 1) (299 + 162 * h + 32 * 0 + 2 * p) to) = _ := a2
  have key : ∀ x : Int32, F_X11_layEntry_35 n m 0 (nI p) to (nI (299 + 162 * h + 32 * 0 + 2 * p) + 1) x (gw_up s (m + 1) (299 + 162 * h + 32 * 0 + 2 * p) to) = some (gw_up (gw_up s (m + 1) (299 + 162 * h + 32 * 0 + 2 * p) to) (m + 1) (300 + 162 * h + 32 * 0 + 2 * p) x) := by
    intro x
    unfold F_X11_layEntry_35
    simp only [gw_let, nI_1, nI_clamp (show 299 + 162 * h + 32 * 0 + 2 * p + 1 < 2 ^ 31 by omega)]
    rw [if_pos ⟨nI_pos' (by omega), by omega⟩, if_pos (show ¬ (0 : Int32) = 1 by decide), F_X11_layEntry_46, if_neg (show ¬ (0 : Int32) = 2 by decide), show 299 + 162 * h + 32 * 0 + 2 * p + 1 = 300 + 162 * h + 32 * 0 + 2 * p by omega]
  simp only [F_X11_layEntry, a1', Option.bind_some, gw_let, nI_clamp (show 299 + 162 * h + 32 * 0 + 2 * p < 2 ^ 31 by omega), a2', key]
  rw [if_pos ⟨nI_pos' (by omega), by omega⟩]
  by_cases c : to = -1
  · rw [if_neg (not_not_intro c), if_pos c]
  · rw [if_pos c, if_neg c]
theorem m_lay1 (hn : 1000 ≤ n) (hG : G b e m K N L3 L2 μ s) (hh : h < 3) (h1 : s (m + 1) 15 = nI h) {p : Nat} (hp : p < 16) {to rt : Int32} : ∃ s1, F_X11_layEntry n m 1 (nI p) to rt s = some (gw_up (gw_up s1 (m + 1) (299 + 162 * h + 32 * 1 + 2 * p) to) (m + 1) (300 + 162 * h + 32 * 1 + 2 * p) (if to = -1 then 0 else rt)) ∧ m_uf m (fun z => decide (z = p)) L3 s s1 := by
  have a1 := m_entry01 (n := n) hh h1 (t := 1) (by decide) hp
  have a2 := m_entry01 (n := n) (s := gw_up s (m + 1) (299 + 162 * h + 32 * 1 + 2 * p) to) hh (by rw [up_ne (by omega)]; exact h1) (t := 1) (by decide) hp
  have a1' : F_X11_entryAt n m 1 (nI p) s = _ := a1
  have a2' : F_X11_entryAt n m 1 (nI p) (gw_up s (m + 1) (299 + 162 * h + 32 * 1 + 2 * p) to) = _ := a2
  have tq : ∃ rt', rt' = (if to = -1 then (0 : Int32) else rt) := ⟨_, rfl⟩
  obtain ⟨rt', hrt⟩ := tq
  have s0d : ∃ s0, s0 = gw_up (gw_up s (m + 1) (299 + 162 * h + 32 * 1 + 2 * p) to) (m + 1) (300 + 162 * h + 32 * 1 + 2 * p) rt' := ⟨_, rfl⟩
  obtain ⟨s0, hs0⟩ := s0d
  have r0 : ∀ i, i ≠ 299 + 162 * h + 32 * 1 + 2 * p → i ≠ 300 + 162 * h + 32 * 1 + 2 * p → s0 (m + 1) i = s (m + 1) i := fun i a1 a2 => by rw [hs0, up_ne (by omega), up_ne (by omega)]
  have hL := (G_q hG 4 (by decide)).1
  have hT0 : gq_T (s0 (m + 1)) := by
    intro z hz
    obtain ⟨t1, t2, t3⟩ := G_q hG 0 (by decide) z hz
    refine ⟨?_, ?_, fun h' t' hh' ht' => ?_⟩
    · rw [r0 _ (by omega) (by omega), r0 _ (by omega) (by omega)]; exact t1
    · rw [r0 _ (by omega) (by omega), r0 _ (by omega) (by omega)]; exact t2
    · by_cases hc : 299 + 162 * h' + 32 * t' + 2 * z = 299 + 162 * h + 32 * 1 + 2 * p
      · have hc2 : 300 + 162 * h' + 32 * t' + 2 * z = 300 + 162 * h + 32 * 1 + 2 * p := by omega
        rw [hc, hc2, hs0, up_ne (by omega), up_eq ⟨rfl, rfl⟩, up_eq ⟨rfl, rfl⟩, hrt]
        intro c
        rw [if_pos c]
      · rw [r0 _ hc (by omega), r0 _ (by omega) (by omega)]; exact t3 h' t' hh' ht'
  have hL0 : gq_L (s0 (m + 1)) 754 786 23 L3 := gq_L_congr hL (fun p hp => r0 _ (by omega) (by omega)) (r0 _ (by omega) (by omega)) (fun k hk => r0 _ (by omega) (by omega))
  obtain ⟨s2, e2, u2⟩ := m_unfold (n := n) (p := p) hn hT0 hL0 hp
  obtain ⟨s1, u1, hs2⟩ := uf_pull u2 (s := s) (fun j hj => r0 j (by omega) (by omega))
  have hs2' : s2 = gw_up (gw_up s1 (m + 1) (299 + 162 * h + 32 * 1 + 2 * p) to) (m + 1) (300 + 162 * h + 32 * 1 + 2 * p) rt' := by
    rw [hs2]
    funext a j
    by_cases c : a = m + 1 ∧ (j = 23 ∨ (754 ≤ j ∧ j < 802))
    · rw [if_pos c, up_ne (by omega), up_ne (by omega)]
    · rw [if_neg c, hs0]
      by_cases c1 : a = m + 1 ∧ j = 300 + 162 * h + 32 * 1 + 2 * p
      · rw [up_eq c1, up_eq c1]
      · rw [up_ne c1, up_ne c1]
        by_cases c2 : a = m + 1 ∧ j = 299 + 162 * h + 32 * 1 + 2 * p
        · rw [up_eq c2, up_eq c2]
        · rw [up_ne c2, up_ne c2]
          exact (u1.1 a j c).symm
  refine ⟨s1, ?_, u1⟩
  rw [← hrt, ← hs2']
  have key : F_X11_layEntry_35 n m 1 (nI p) to (nI (299 + 162 * h + 32 * 1 + 2 * p) + 1) rt' (gw_up s (m + 1) (299 + 162 * h + 32 * 1 + 2 * p) to) = some s2 := by
    unfold F_X11_layEntry_35
    simp only [gw_let, nI_1, nI_clamp (show 299 + 162 * h + 32 * 1 + 2 * p + 1 < 2 ^ 31 by omega)]
    rw [if_pos ⟨nI_pos' (by omega), by omega⟩, show 299 + 162 * h + 32 * 1 + 2 * p + 1 = 300 + 162 * h + 32 * 1 + 2 * p by omega, ← hs0, e2, if_neg (not_not_intro trivial), Option.bind_some, F_X11_layEntry_46, if_neg (show ¬ (1 : Int32) = 2 by decide)]
  simp only [F_X11_layEntry, a1', Option.bind_some, gw_let, nI_clamp (show 299 + 162 * h + 32 * 1 + 2 * p < 2 ^ 31 by omega), a2']
  rw [if_pos ⟨nI_pos' (by omega), by omega⟩]
  by_cases c : to = -1
  · rw [if_neg (not_not_intro c)]
    have : (0 : Int32) = rt' := by rw [hrt, if_pos c]
    rw [this]
    exact key
  · rw [if_pos c]
    have : rt = rt' := by rw [hrt, if_neg c]
    rw [this]
    exact key
theorem hF1 {s1 : gw_M} {p : Nat} (hp : p < 16) (u1 : m_uf m (fun z => decide (z = p)) L3 s s1) : s1 (m + 1) (754 + 2 * p) = -1 := by
  rw [(u1.2.1 p hp).1]
  simp
theorem sim_put1 (hn : 1000 ≤ n) (hG : G b e m K N L3 L2 μ s) (hh : h < 3) (h1 : s (m + 1) 15 = nI h) {p f r : Nat} (hp : p < 16) (hf : f ≤ 15) (hr : r ≤ 7) : F_X3_tellInner n e (nI p) (nI f) (nI r) μ = some (cuf e (fun z => decide (z = p)) (cput (e + (44 + 15 * h + 4 * 1)) p (nI f) (nI r) μ)) ∧ ∃ s', F_X11_layEntry n m 1 (nI p) (nI f) (nI r) s = some s' ∧ Gs b e m K N (cuf e (fun z => decide (z = p)) (cput (e + (44 + 15 * h + 4 * 1)) p (nI f) (nI r) μ)) s' := by
  have h5 : μ e 5 = nI h := (G_rd hG (i := 15) (c := 0) (j := 5) (by decide +kernel)).symm.trans h1
  refine ⟨?_, ?_⟩
  · have : F_X8_put n (e + 37 + 15 * h + 11) (nI p) (nI f) (nI r) μ = some (cput (e + (44 + 15 * h + 4 * 1)) p (nI f) (nI r) μ) := by
      rw [show e + 37 + 15 * h + 11 = e + (44 + 15 * h + 4 * 1) by omega]
      exact c_put hp
    simp only [F_X3_tellInner, c_inHand hh h5, Option.bind_some, this, c_dropF hp]
  · obtain ⟨s1, e1, u1⟩ := m_lay1 (n := n) hn hG hh h1 hp (to := nI f) (rt := nI r)
    rw [if_neg (by rw [nI_m1 (by omega)]; exact id)] at e1
    have G1 := sim_uf hG u1 (cuf_is _ _ _)
    have G2 := lay01_put G1 hh (t := 1) (by decide) (by rw [u1.1 _ _ (by omega)]; exact h1) hp hf hr (fun _ => hF1 hp u1)
    refine ⟨_, e1, ?_⟩
    have hc : cput (e + (44 + 15 * h + 4 * 1)) p (nI f) (nI r) (cuf e (fun z => decide (z = p)) μ) = cuf e (fun z => decide (z = p)) (cput (e + (44 + 15 * h + 4 * 1)) p (nI f) (nI r) μ) := by
      unfold cput
      rw [cuf_up (by omega), cuf_up (by omega), cuf_up (by omega), cuf_up (by omega), cuf_ne (by omega)]
    rw [hc] at G2
    exact ⟨_, _, G2⟩
theorem sim_drop1 (hn : 1000 ≤ n) (hG : G b e m K N L3 L2 μ s) (hh : h < 3) (h1 : s (m + 1) 15 = nI h) {p : Nat} (hp : p < 16) : ∃ s', F_X11_layEntry n m 1 (nI p) (-1) 0 s = some s' ∧ Gs b e m K N (cuf e (fun z => decide (z = p)) (cdrop (e + (44 + 15 * h + 4 * 1)) p μ)) s' := by
  obtain ⟨s1, e1, u1⟩ := m_lay1 (n := n) hn hG hh h1 hp (to := -1) (rt := 0)
  rw [if_pos rfl] at e1
  have G1 := sim_uf hG u1 (cuf_is _ _ _)
  have G2 := lay01_drop G1 hh (t := 1) (by decide) (by rw [u1.1 _ _ (by omega)]; exact h1) hp (fun _ => hF1 hp u1)
  refine ⟨_, e1, ?_⟩
  have hc : cdrop (e + (44 + 15 * h + 4 * 1)) p (cuf e (fun z => decide (z = p)) μ) = cuf e (fun z => decide (z = p)) (cdrop (e + (44 + 15 * h + 4 * 1)) p μ) := by
    unfold cdrop
    rw [cuf_up (by omega), cuf_up (by omega)]
  rw [hc] at G2
  exact ⟨_, _, G2⟩
theorem G_room (hG : G b e m K N L3 L2 μ s) {r : Nat} (h1 : 1 ≤ r) (h2 : r ≤ 16) (hl : L3.length ≤ r) : G b e m K N L3 L2 (gw_up μ e 2 (nI r)) (gw_up s (m + 1) 4 (nI r)) := by
  have X := GX_up (GX_of hG) (i := 4) (c := 0) (j := 2) (by decide +kernel) (v := nI r) (by
    unfold gq_r
    rw [show gd_q 4 = (1, 16, 0) by decide +kernel, nI_toInt (by omega)]
    refine ⟨by show (1 : Int) ≤ r; omega, ?_⟩
    show (r : Int) ≤ 16 + ((0 : Nat) : Int) * b
    omega)
  refine GX_end (E := fun k => decide (k = 8)) (GX_E X (fun k hk hE => ?_)) (fun _ => rfl) (fun _ => rfl) (fun k hk hE => ?_)
  · have hk8 : k ≠ 8 := by simpa using hE
    have : ∀ k < 9, k ≠ 8 → na k 4 = false := by decide +kernel
    simp only [this k hk hk8, Bool.or_false]
  · have hk8 : k = 8 := by simpa using hE
    subst hk8
    obtain ⟨f1, f2⟩ := G_q hG 8 (by decide)
    have ro : ∀ i, i ≠ 4 → gw_up s (m + 1) 4 (nI r) (m + 1) i = s (m + 1) i := fun i hi => up_ne (by omega)
    refine ⟨fun h' hh' hn z hz hfz => ?_, by rw [up_eq ⟨rfl, rfl⟩, nI_toInt (by omega)]; omega⟩
    rw [ro _ (by omega)] at hn hfz
    obtain ⟨q, hq, a1, a2, a3⟩ := f1 h' hh' hn z hz hfz
    refine ⟨q, hq, by rw [ro _ (by omega)]; exact a1, by rw [ro _ (by omega), ro _ (by omega)]; exact a2, ?_⟩
    rw [ro _ (by omega), ro _ (by omega), a3]
    unfold gr_2
    rw [ro _ (by omega), ro _ (by omega)]
/-- room is made -/
theorem sim_room18 (hn : 1000 ≤ n) {r : Nat} (h1 : 1 ≤ r) (h2 : r ≤ 16) : ∀ (ℓ f1 f2 : Nat) (L3 : List Nat) (μ s : gw_M), L3.length = ℓ → ℓ < f1 → ℓ < f2 → G b e m K N L3 L2 μ s → ∃ μ' s', F_X3_makeRoom_18 n e f1 (nI ℓ - nI r) (gw_up μ e 2 (nI r)) = some μ' ∧ F_X11_roomNow_7 n m f2 (nI r) (gw_up s (m + 1) 4 (nI r)) = some s' ∧ Gs b e m K N μ' s' := by
  intro ℓ
  induction ℓ with
  | zero =>
    intro f1 f2 L3 μ s hl hf1 hf2 hG
    obtain ⟨f1, rfl⟩ : ∃ z, f1 = z + 1 := ⟨f1 - 1, by omega⟩
    obtain ⟨f2, rfl⟩ : ∃ z, f2 = z + 1 := ⟨f2 - 1, by omega⟩
    obtain ⟨l1, l2, l3, l4, l5, l6⟩ := G_L3 hG
    refine ⟨_, _, ?_, ?_, _, _, G_room hG h1 h2 (by omega)⟩
    · rw [F_X3_makeRoom_18, if_pos]
      rw [Int32.le_iff_toInt_le, pk_sub_toInt (by omega) (by omega)]
      show ((0 : Nat) : Int) - r ≤ 0
      omega
    · rw [F_X11_roomNow_7, up_ne (by omega), l4, if_pos (nI_le (by omega) (by omega))]
  | succ ℓ ih =>
    intro f1 f2 L3 μ s hl hf1 hf2 hG
    obtain ⟨f1, rfl⟩ : ∃ z, f1 = z + 1 := ⟨f1 - 1, by omega⟩
    obtain ⟨f2, rfl⟩ : ∃ z, f2 = z + 1 := ⟨f2 - 1, by omega⟩
    obtain ⟨l1, l2, l3, l4, l5, l6⟩ := G_L3 hG
    by_cases hle : ℓ + 1 ≤ r
    · refine ⟨_, _, ?_, ?_, _, _, G_room hG h1 h2 (by omega)⟩
      · rw [F_X3_makeRoom_18, if_pos]
        rw [Int32.le_iff_toInt_le, pk_sub_toInt (by omega) (by omega)]
        show ((ℓ + 1 : Nat) : Int) - r ≤ 0
        omega
      · rw [F_X11_roomNow_7, up_ne (by omega), l4, if_pos (nI_le (by omega) (by omega))]
    · obtain ⟨z, L', rfl⟩ : ∃ z L', L3 = z :: L' := by
        cases L3 with
        | nil => simp at hl
        | cons z L' => exact ⟨z, L', rfl⟩
      have hz := ((l2 z).mp List.mem_cons_self).1
      have h786 : s (m + 1) 786 = nI z := l5 0 z rfl
      have r0 : ∀ i, i ≠ 4 → gw_up s (m + 1) 4 (nI r) (m + 1) i = s (m + 1) i := fun i hi => up_ne (by omega)
      have hT0 : gq_T (gw_up s (m + 1) 4 (nI r) (m + 1)) := gq_T_congr (G_q hG 0 (by decide)) (fun i hi => r0 i (by rintro rfl; revert hi; decide))
      have hL0 : gq_L (gw_up s (m + 1) 4 (nI r) (m + 1)) 754 786 23 (z :: L') := gq_L_congr (G_q hG 4 (by decide)).1 (fun p hp => r0 _ (by omega)) (r0 _ (by omega)) (fun k hk => r0 _ (by omega))
      obtain ⟨s2, e2, u2⟩ := m_unfold (n := n) (p := z) hn hT0 hL0 hz
      obtain ⟨s1, u1, hs2⟩ := uf_pull u2 (s := s) (fun j hj => r0 j (by omega))
      have hs2' : s2 = gw_up s1 (m + 1) 4 (nI r) := by
        rw [hs2]
        funext a j
        by_cases c : a = m + 1 ∧ (j = 23 ∨ (754 ≤ j ∧ j < 802))
        · rw [if_pos c, up_ne (by omega)]
        · rw [if_neg c]
          by_cases c2 : a = m + 1 ∧ j = 4
          · rw [up_eq c2, up_eq c2]
          · rw [up_ne c2, up_ne c2]
            exact (u1.1 a j c).symm
      have G1 := sim_uf hG u1 (cuf_is _ _ _)
      rw [filt_hd l1] at G1
      obtain ⟨μ', s', i1, i2, i3⟩ := ih f1 f2 L' (cuf e (fun y => decide (y = z)) μ) s1 (by simpa using hl) (by omega) (by omega) G1
      refine ⟨μ', s', ?_, ?_, i3⟩
      · have hde : F_X8_dropEldest n (e + 8) (gw_up μ e 2 (nI r)) = some (gw_up (cuf e (fun y => decide (y = z)) μ) e 2 (nI r)) := by
          have he : F_X8_eldest n (e + 8) (gw_up μ e 2 (nI r)) = some (nI z) := c_eldest (n := n) (a := e + 8) (L := z :: L') hn (fun p => by rw [up_ne (by omega)]; exact l2 p) (by
            have hc : ∀ y, gw_up μ e 2 (nI r) (e + 8 + 3) y = μ (e + 11) y := fun y => up_ne (by omega)
            simp only [hc]
            exact l6)
          simp only [F_X8_dropEldest, he, Option.bind_some, nI_m1 (show z < 2 ^ 31 by omega), c_dropF hz]
          rw [cuf_up (by omega)]
          rfl
        rw [F_X3_makeRoom_18, if_neg, hde, Option.bind_some]
        · simp only [gw_let]
          rw [show nI (ℓ + 1) - nI r + (-1) = nI ℓ - nI r from by
            apply Int32.toInt_inj.mp
            rw [← nI_1]
            have : nI ℓ + 1 - nI r + (-1) = nI ℓ - nI r := by
              rw [Int32.sub_eq_add_neg, Int32.sub_eq_add_neg, Int32.add_assoc, Int32.add_assoc, Int32.add_comm (-nI r) (-1), ← Int32.add_assoc 1 (-1), show (1 : Int32) + -1 = 0 from rfl, Int32.zero_add]
            rw [this]]
          exact i1
        · rw [Int32.le_iff_toInt_le, pk_sub_toInt (by omega) (by omega)]
          show ¬ ((ℓ + 1 : Nat) : Int) - r ≤ 0
          omega
      · rw [F_X11_roomNow_7, r0 23 (by omega), l4, if_neg (nI_ge (by omega) (by omega)), r0 786 (by omega), h786, e2, Option.bind_some, hs2']
        exact i2
theorem sim_room (hn : 1000 ≤ n) (hG : G b e m K N L3 L2 μ s) {r : Nat} (h1 : 1 ≤ r) (h2 : r ≤ 16) : ∃ μ' s', F_X3_makeRoom n e (nI r) μ = some μ' ∧ F_X11_roomNow n m (nI r) s = some s' ∧ Gs b e m K N μ' s' := by
  obtain ⟨μ', s', e1, e2, e3⟩ := sim_room18 (n := n) hn h1 h2 L3.length n n L3 μ s rfl (by have := (G_L3 hG).2.2.1; omega) (by have := (G_L3 hG).2.2.1; omega) hG
  refine ⟨μ', s', ?_, ?_, e3⟩
  · have hsz : F_X8_size n (e + 8) (gw_up μ e 2 (nI r)) = some (nI L3.length) := by
      rw [c_size hn]
      congr 2
      apply len_eq (G_L3 hG).1
      intro p
      rw [(G_L3 hG).2.1 p, up_ne (by omega)]
      simp
    simp only [F_X3_makeRoom, gw_let, hsz, Option.bind_some]
    rw [up_eq ⟨rfl, rfl⟩]
    exact e1
  · simp only [F_X11_roomNow, gw_let]
    exact e2
end LAY01
