/-! ===== events and touches ===== -/
def sr (w1 w0 : Int32) (k : Nat) : Int32 := if bt w1 k then 1 else if bt w0 k then 0 else 2
theorem bi_some {α β γ : Type} {a : α} {b : β} {f : α → β → Option γ} : gw_bi (some (a, b)) f = f a b := rfl
theorem so_any : ∀ j < 24, gd_any (32 + j) = true := by decide +kernel
theorem so_na : ∀ j < 24, ∀ k < 9, na k (32 + j) = false := by decide +kernel
theorem fr_na : ∀ f < 10, ∀ k < 9, na k (802 + f) = false := by decide +kernel
theorem nI3 {w : Nat} (hw : w < 2 ^ 31) : (nI w = 1) = (w = 1) := nI_eqT (b := 1) hw (by decide)
section TOUCH
variable {b e m n h : Nat} {K N : gw_M} {L3 L2 L : List Nat} {μ s : gw_M} {P : Nat → Bool}
theorem G_s15 (hG : G b e m K N L3 L2 μ s) (h5 : μ e 5 = nI h) : s (m + 1) 15 = nI h := (G_rd hG (i := 15) (c := 0) (j := 5) (by decide +kernel)).trans h5
theorem G_h5 (hG : G b e m K N L3 L2 μ s) (h1 : s (m + 1) 15 = nI h) : μ e 5 = nI h := (G_rd hG (i := 15) (c := 0) (j := 5) (by decide +kernel)).symm.trans h1
theorem G_so (hG : G b e m K N L3 L2 μ s) {j : Nat} (hj : j < 24) (v : Int32) : G b e m K N L3 L2 (gw_up μ (e + 32) j v) (gw_up s (m + 1) (32 + j) v) := G_fr hG (gd_so j hj) (gq_any (so_any j hj)) (so_na j hj)
theorem G_inc (hG : G b e m K N L3 L2 μ s) (hb : b + 1 < 2 ^ 28) {i c j : Nat} (hi : gd i = some (c, j)) (hq : gd_q i = (0, 0, 1)) (hf : ∀ k, k < 9 → na k i = false) : G (b + 1) e m K N L3 L2 (gw_up μ (e + c) j (μ (e + c) j + 1)) (gw_up s (m + 1) i (s (m + 1) i + 1)) := by
  obtain ⟨k, hk, k1, k2⟩ := G_nb hG hi hq
  rw [k1, k2, nI_1]
  exact G_fr (G_mono hG (by omega) hb) hi (gq_b hq (by omega) (by omega)) hf
theorem c_seer {k : Nat} (hk : k < 32) : F_X3_seerOfInner n e (nI k) μ = some (sr (μ (e + 19) 1) (μ (e + 19) 0) k) := by
  simp only [F_X3_seerOfInner, c_has n _ hk, Option.bind_some, sr]
  cases bt (μ (e + 19) 1) k <;> cases bt (μ (e + 19) 0) k <;> rfl
theorem m_who {k : Nat} (hk : k < 32) : F_X11_whoSees n m (nI k) s = some (sr (s (m + 1) 18) (s (m + 1) 17) k) := by
  simp only [F_X11_whoSees, m_has n _ hk, Option.bind_some, sr]
  cases bt (s (m + 1) 18) k <;> cases bt (s (m + 1) 17) k <;> rfl
theorem G_w (hG : G b e m K N L3 L2 μ s) : s (m + 1) 17 = μ (e + 19) 0 ∧ s (m + 1) 18 = μ (e + 19) 1 := ⟨G_rd hG (i := 17) (by decide +kernel), G_rd hG (i := 18) (by decide +kernel)⟩
theorem cwx0_up {w a j : Nat} {r d t v : Int32} (h : a < e + 26 ∨ e + 30 < a) : cwx0 e w r d t (gw_up μ a j v) = gw_up (cwx0 e w r d t μ) a j v := by
  unfold cwx0
  rw [up_ne (a' := e + 30) (j' := 0) (by omega), up_ne (a' := e + 30) (j' := 1) (by omega), up_ne (a' := e + 30) (j' := w) (by omega)]
  simp only []
  rw [up_comm (a := a) (a' := e + 26) (by omega), up_comm (a := a) (a' := e + 27) (by omega), up_comm (a := a) (a' := e + 28) (by omega), up_comm (a := a) (a' := e + 29) (by omega), up_comm (a := a) (a' := e + 30) (by omega)]
theorem cdl_up {R a j : Nat} {d v : Int32} (h : e + 30 < a) : cdl e R d (gw_up μ a j v) = gw_up (cdl e R d μ) a j v := by
  have hc : ∀ t, gw_up (cwx e 1 (nI R) d t (gw_up μ a j v)) e 6 1 = gw_up (gw_up (cwx e 1 (nI R) d t μ) e 6 1) a j v := by
    intro t
    rw [cwx_1, cwx_1, cwx0_up (by omega), up_comm (a := a) (a' := e + 25) (by omega), up_comm (a := a) (a' := e + 25) (by omega), up_comm (a := a) (a' := e) (by omega)]
  unfold cdl
  rw [up_ne (a := a) (a' := e + 20) (by omega), up_ne (a := a) (a' := e) (by omega), hc]
  unfold cgo
  rw [up_ne (a := a) (a' := e + (gg_c 0 + 1)) (by show ¬ (e + 13 = a ∧ _); omega)]
  split
  · rfl
  · exact up_comm (by show ¬ (a = e + 13 ∧ _); omega)
theorem cdl_9 {R : Nat} {d : Int32} : cdl e R d μ (e + 25) 9 = μ (e + 25) 9 := by
  unfold cdl
  rw [cgo_ne (by show ¬ (e + 25 = e + 13 ∧ _); omega), up_ne (by omega), cwx_1, up_ne (by omega), up_ne (by omega), cwx0_ne (by omega)]
/-- cells that an event leaves -/
def ef (e a j : Nat) : Prop := a ≠ e + 32 ∧ ¬ (a = e ∧ j = 6) ∧ ¬ (a = e + 13 ∧ j = 4) ∧ (a < e + 25 ∨ e + 30 < a ∨ (a = e + 25 ∧ j = 9))
theorem cdl_ef {R a j : Nat} {d : Int32} (h : ef e a j) : cdl e R d μ a j = μ a j := by
  obtain ⟨h1, h2, h3, h4⟩ := h
  rcases h4 with h4 | h4 | ⟨rfl, rfl⟩
  · exact cdl_ne ⟨h2, h3, Or.inl h4⟩
  · exact cdl_ne ⟨h2, h3, Or.inr h4⟩
  · exact cdl_9
theorem cwx0_ef {w a j : Nat} {r d t : Int32} (h : ef e a j) : cwx0 e w r d t μ a j = μ a j := by
  obtain ⟨h1, h2, h3, h4⟩ := h
  exact cwx0_ne (by omega)
theorem c_seen {z j : Nat} {r : Int32} (hr : (3 : Int32) * nI z + r = nI j) (hj : j < 24) {X : gw_M → Option (Int32 × gw_M)} : (if 0 ≤ (((3 : Int32) * nI z) + r) ∧ (((3 : Int32) * nI z) + r).toNatClampNeg < 24 then (if 0 ≤ (((3 : Int32) * nI z) + r) ∧ (((3 : Int32) * nI z) + r).toNatClampNeg < 24 then gw_let (gw_up μ (e + 32) (((3 : Int32) * nI z) + r).toNatClampNeg ((μ (e + 32) (((3 : Int32) * nI z) + r).toNatClampNeg) + (1 : Int32))) X else none) else none) = X (gw_up μ (e + 32) j (μ (e + 32) j + 1)) := by
  rw [hr, nI_clamp (by omega), if_pos ⟨nI_pos' (by omega), hj⟩, if_pos ⟨nI_pos' (by omega), hj⟩]
  rfl
theorem m_seen {z j : Nat} {r : Int32} (hr : (3 : Int32) * nI z + r = nI j) (hj : j < 24) : F_X11_eventNow_23 n m (nI z) r s = some (r, gw_up s (m + 1) (32 + j) (s (m + 1) (32 + j) + 1)) := by
  unfold F_X11_eventNow_23
  rw [Int32.add_assoc, hr, show (32 : Int32) = nI 32 from rfl, nI_add, nI_clamp (by omega), if_pos ⟨nI_pos' (by omega), by omega⟩, if_pos ⟨nI_pos' (by omega), by omega⟩]
  rfl
theorem sr3 (z : Nat) (w : Nat) : (3 : Int32) * nI z + nI w = nI (3 * z + w) := by
  rw [show (3 : Int32) = nI 3 from rfl, pk_mul, nI_add]
theorem sim_evI (hn : 1000 ≤ n) (hG : G b e m K N L3 L2 μ s) (hb : b + 1 < 2 ^ 28) (hl : μ e 6 = 2) {k : Nat} (hk : k < 8) : ∃ r μ' s', F_X3_eventOfInner n e (nI k) μ = some (r, μ') ∧ F_X11_eventNow n m (nI k) s = some (r, s') ∧ G (b + 1) e m K N L3 L2 μ' s' ∧ r = sr (μ (e + 19) 1) (μ (e + 19) 0) k ∧ ∀ a j, ef e a j → μ' a j = μ a j := by
  have hlv : ¬ s (m + 1) 2 = 1 := by rw [(G_level hG).1, hl]; decide
  obtain ⟨w0, w1⟩ := G_w hG
  simp only [F_X3_eventOfInner, c_seer (n := n) (e := e) (μ := μ) (show k < 32 by omega), Option.bind_some, F_X11_eventNow, F_X11_eventInner, m_who (n := n) (m := m) (s := s) (show k < 32 by omega), w0, w1, if_pos hlv]
  generalize hsr : sr (μ (e + 19) 1) (μ (e + 19) 0) k = r
  have hr : r = 0 ∨ r = 1 ∨ r = 2 := by
    rw [← hsr]
    unfold sr
    cases bt (μ (e + 19) 1) k <;> cases bt (μ (e + 19) 0) k <;> simp
  rcases hr with rfl | rfl | rfl
  · have h3 : (3 : Int32) * nI k + 0 = nI (3 * k + 0) := sr3 k 0
    rw [c_seen h3 (by omega), if_pos (by decide), if_neg (by decide), if_pos (by decide)]
    have Gc := G_so hG (j := 3 * k + 0) (by omega) (μ (e + 32) (3 * k + 0) + 1)
    obtain ⟨a1, -⟩ := sim_see (n := n) hn Gc hb 4 (nI k)
    obtain ⟨-, s1, b1, b2⟩ := sim_see (n := n) hn hG hb 4 (nI k)
    rw [a1, F_X11_eventInner_17, if_neg (by decide), b1]
    have hv : s1 (m + 1) (32 + (3 * k + 0)) = μ (e + 32) (3 * k + 0) := by rw [G_rd b2 (gd_so (3 * k + 0) (by omega)), cwx0_ne (by omega)]
    refine ⟨0, _, _, rfl, m_seen (n := n) (s := s1) h3 (by omega), ?_, rfl, fun a j ha => ?_⟩
    · rw [cwx0_up (by omega), up_ne (a := e + 32) (a' := e) (by omega), hv]
      exact G_so b2 (by omega) _
    · rw [cwx0_ef ha, up_ne (fun c => ha.1 c.1)]
  · have h3 : (3 : Int32) * nI k + 1 = nI (3 * k + 1) := sr3 k 1
    rw [c_seen h3 (by omega), if_neg (by decide), if_neg (by decide)]
    have Gc := G_so hG (j := 3 * k + 1) (by omega) (μ (e + 32) (3 * k + 1) + 1)
    obtain ⟨a1, -⟩ := sim_deal (n := n) hn Gc hb (R := 4) (by decide) (by decide) (nI k)
    obtain ⟨-, s1, b1, b2⟩ := sim_deal (n := n) hn hG hb (R := 4) (by decide) (by decide) (nI k)
    have a1' : F_X3_dealToOuter n e 4 (nI k) _ = _ := a1
    have b1' : F_X11_deal n m 4 (nI k) s = _ := b1
    rw [a1', b1']
    have hv : s1 (m + 1) (32 + (3 * k + 1)) = μ (e + 32) (3 * k + 1) := by rw [G_rd b2 (gd_so (3 * k + 1) (by omega)), cdl_ne ⟨by omega, by omega, by omega⟩]
    have hx : F_X11_eventInner_17 n m (nI k) 1 s1 = some (1, s1) := by rw [F_X11_eventInner_17, if_pos (by decide)]
    refine ⟨1, _, gw_up s1 (m + 1) (32 + (3 * k + 1)) (s1 (m + 1) (32 + (3 * k + 1)) + 1), rfl, ?_, ?_, rfl, fun a j ha => ?_⟩
    · rw [Option.bind_some, hx, bi_some, m_seen h3 (by omega)]
    · rw [cdl_up (by omega), hv]
      exact G_so b2 (by omega) _
    · rw [cdl_ef ha, up_ne (fun c => ha.1 c.1)]
  · have h3 : (3 : Int32) * nI k + 2 = nI (3 * k + 2) := sr3 k 2
    rw [c_seen h3 (by omega), if_pos (by decide), if_pos (by decide), if_pos (by decide), F_X11_eventInner_17, if_pos (by decide)]
    have hv : s (m + 1) (32 + (3 * k + 2)) = μ (e + 32) (3 * k + 2) := G_rd hG (gd_so (3 * k + 2) (by omega))
    refine ⟨2, _, _, rfl, m_seen (n := n) (s := s) h3 (by omega), ?_, rfl, fun a j ha => up_ne (fun c => ha.1 c.1)⟩
    rw [hv]
    exact G_mono (G_so hG (by omega) _) (by omega) hb
theorem sim_evO (hn : 1000 ≤ n) (hG : G b e m K N L3 L2 μ s) (hb : b + 1 < 2 ^ 28) (hl : μ e 6 = 1) {k : Nat} (hk : k < 8) : ∃ r μ' s', F_X3_eventOfOuter n e (nI k) μ = some (r, μ') ∧ F_X11_eventNow n m (nI k) s = some (r, s') ∧ G (b + 1) e m K N L3 L2 μ' s' ∧ ∀ a j, ef e a j → μ' a j = μ a j := by
  have hlv : s (m + 1) 2 = 1 := by rw [(G_level hG).1, hl]
  obtain ⟨w0, w1⟩ := G_w hG
  simp only [F_X3_eventOfOuter, c_has n _ (show k < 32 by omega), Option.bind_some, F_X11_eventNow, F_X11_eventOuter, m_has n _ (show k < 32 by omega), w0]
  rw [if_neg (not_not_intro hlv)]
  cases hbt : bt (μ (e + 19) 0) k
  · have h3 : (3 : Int32) * nI k + 2 = nI (3 * k + 2) := sr3 k 2
    simp only [Bool.false_eq_true, if_false, if_true, not_true_eq_false, F_X3_eventOfOuter_18, bi_some]
    rw [c_seen h3 (by omega), if_pos (by decide), m_seen h3 (by omega)]
    have hv : s (m + 1) (32 + (3 * k + 2)) = μ (e + 32) (3 * k + 2) := G_rd hG (gd_so (3 * k + 2) (by omega))
    refine ⟨2, _, _, rfl, rfl, ?_, fun a j ha => up_ne (fun c => ha.1 c.1)⟩
    rw [hv]
    exact G_mono (G_so hG (by omega) _) (by omega) hb
  · have h3 : (3 : Int32) * nI k + 0 = nI (3 * k + 0) := sr3 k 0
    have d1 : ¬ (1 : Int32) = 0 := by decide
    simp only [if_true, if_neg d1, if_pos d1, F_X3_eventOfOuter_18]
    rw [c_seen h3 (by omega), if_neg (by decide)]
    have Gc := G_so hG (j := 3 * k + 0) (by omega) (μ (e + 32) (3 * k + 0) + 1)
    obtain ⟨a1, -⟩ := sim_see (n := n) hn Gc hb 5 (nI k)
    obtain ⟨-, s1, b1, b2⟩ := sim_see (n := n) hn hG hb 5 (nI k)
    rw [a1, b1]
    have hv : s1 (m + 1) (32 + (3 * k + 0)) = μ (e + 32) (3 * k + 0) := by rw [G_rd b2 (gd_so (3 * k + 0) (by omega)), cwx0_ne (by omega)]
    refine ⟨0, _, _, rfl, m_seen (n := n) (s := s1) h3 (by omega), ?_, fun a j ha => ?_⟩
    · rw [cwx0_up (by omega), up_ne (a := e + 32) (a' := e) (by omega), hv]
      exact G_so b2 (by omega) _
    · rw [cwx0_ef ha, up_ne (fun c => ha.1 c.1)]
/-- what is done at a frame -/
theorem sim_doAt (hG : G b e m K N L3 L2 μ s) {f w : Nat} (hf : f ≤ 9) (hw : w < 3) {v : Int32} (hv : w = 1 → ∃ x, x ≤ 9999 ∧ v = nI x) : ∃ x μ' s', x ≤ 9999 ∧ F_X4_touchFrame n (e + 1) (nI f) (nI w) v μ = some (nI x, μ') ∧ F_X11_doAt n m (nI f) (nI w) v s = some (nI x, s') ∧ G b e m K N L3 L2 μ' s' ∧ ∀ a j, ¬ a = e + 6 → ¬ (a = e + 1 ∧ j = 4) → μ' a j = μ a j := by
  have hc : 0 ≤ nI f ∧ f < 10 := ⟨nI_pos' (by omega), by omega⟩
  have hc2 : 0 ≤ nI (802 + f) ∧ 802 + f < 20813 := ⟨nI_pos' (by omega), by omega⟩
  obtain ⟨g1, g2⟩ := gd_fr f (by omega)
  simp only [F_X4_touchFrame, F_X11_doAt, F_X4_touchFrame_24, F_X11_doAt_29, nI3 (show w < 2 ^ 31 by omega), show (802 : Int32) = nI 802 from rfl, nI_add, nI_clamp (show f < 2 ^ 31 by omega), nI_clamp (show 802 + f < 2 ^ 31 by omega), if_pos hc, if_pos hc2, gw_let, Nat.add_assoc, Nat.reduceAdd]
  by_cases h1 : w = 1
  · obtain ⟨x, hx, rfl⟩ := hv h1
    rw [if_neg (not_not_intro h1), if_neg (not_not_intro h1)]
    have G1 := G_fr hG g1 (v := nI x) (gq_nI (n := 9999) g2 (by decide) hx (by decide)) (fr_na f (by omega))
    obtain ⟨c, hc, c1, c2⟩ := G_n G1 (i := 21) (c := 1) (j := 4) (by decide +kernel) (n := 1023) (by decide +kernel)
    obtain ⟨c', hc', c3⟩ := or_rg hc hf
    have G2 := G_fr G1 (i := 21) (c := 1) (j := 4) (by decide +kernel) (v := nI c') (gq_nI (l := 0) (n := 1023) (by decide +kernel) (by decide) hc' (by decide)) (by decide +kernel)
    refine ⟨x, _, _, hx, ?_, ?_, G2, fun a j h1 h2 => ?_⟩
    · rw [c1, c3, up_ne (by omega), up_eq ⟨rfl, rfl⟩]
    · rw [c2, c3, up_ne (by omega), up_eq ⟨rfl, rfl⟩]
    · rw [up_ne h2, up_ne (fun c => h1 c.1)]
  · rw [if_pos h1, if_pos h1]
    obtain ⟨x, hx, c1, c2⟩ := G_n hG g1 (n := 9999) g2
    exact ⟨x, μ, s, hx, by rw [c1], by rw [c2], hG, fun _ _ _ _ => rfl⟩
theorem sim_doInner (hn : 1000 ≤ n) (hG : G b e m K N L3 L2 μ s) (hb : b + 1 < 2 ^ 28) {p f w : Nat} (hp : p < 16) (hf : f ≤ 9) (h9 : μ (e + 9) p = nI f) (hw : w < 3) {v : Int32} (hv : w = 1 → ∃ x, x ≤ 9999 ∧ v = nI x) : ∃ x μ' s', x ≤ 9999 ∧ F_X3_touchByInner_92 n e (nI w) v (nI p) μ = some (nI x, μ') ∧ F_X11_doInner n m (nI f) (nI w) v s = some (nI x, s') ∧ G (b + 1) e m K N L3 L2 μ' s' ∧ ∀ a j, ¬ a = e + 6 → ¬ (a = e + 1 ∧ j = 4) → ¬ a = e + 31 → ¬ (a = e + 25 ∧ j = 8) → μ' a j = μ a j := by
  obtain ⟨x, μ1, s1, hx, a1, a2, a3, a4⟩ := sim_doAt (n := n) hG hf hw hv
  simp only [F_X3_touchByInner_92, F_X11_doInner, nI_clamp (show p < 2 ^ 31 by omega), h9, a1, a2, bi_some, nI3 (show w < 2 ^ 31 by omega)]
  rw [if_pos ⟨nI_pos' (by omega), hp⟩]
  by_cases h1 : w = 1
  · rw [if_pos h1, if_pos h1]
    exact ⟨x, μ1, s1, hx, rfl, rfl, G_mono a3 (by omega) hb, fun a j h1 h2 _ _ => a4 a j h1 h2⟩
  · rw [if_neg h1, if_neg h1]
    obtain ⟨k1, s2, k2, k3⟩ := sim_hear (n := n) hn a3 hb (nI x)
    rw [k1, k2]
    exact ⟨x, _, s2, hx, rfl, rfl, k3, fun a j h1 h2 h3 h4 => by rw [chr_ne ⟨h3, h4⟩]; exact a4 a j h1 h2⟩
theorem m_isParted {p w : Nat} (hp : p < 16) (hw : w < 3) : F_X11_isParted n m (nI p) (nI w) s = some (if w = 1 ∧ bt (s (m + 1) 27) p = true ∧ bt (s (m + 1) (707 + 2 * p)) 1 = true then 1 else 0) := by
  have hh : ∀ x, F_X11_has n x 1 s = some (if bt x 1 then 1 else 0) := fun x => m_has n x (k := 1) (by decide) s
  simp only [F_X11_isParted, F_X11_isParted_37, m_copied hp, m_entry2 hp, Option.bind_some, nI3 (show w < 2 ^ 31 by omega), nI_1, show 706 + 2 * p + 1 = 707 + 2 * p by omega, nI_clamp (show 707 + 2 * p < 2 ^ 31 by omega), hh]
  have hc : 0 ≤ nI (707 + 2 * p) ∧ 707 + 2 * p < 20813 := ⟨nI_pos' (by omega), by omega⟩
  by_cases h1 : w = 1
  · rw [if_pos hc]
    cases bt (s (m + 1) 27) p <;> cases bt (s (m + 1) (707 + 2 * p)) 1 <;> simp [h1]
  · simp [h1]
theorem c_parts {p : Nat} (hp : p < 16) : F_X4_partsOnWrite n (e + 1) (nI p) μ = some (if bt (μ (e + 1) 3) p = true ∧ bt (μ (e + 4) p) 1 = true then 1 else 0) := by
  have hh : ∀ x, F_X10_hasBit n x 1 μ = some (if bt x 1 then 1 else 0) := fun x => c_has n x (k := 1) (by decide) μ
  have hc : 0 ≤ nI p ∧ p < 16 := ⟨nI_pos' (by omega), hp⟩
  simp only [F_X4_partsOnWrite, F_X4_partsOnWrite_31, c_has n _ (show p < 32 by omega), hh, Option.bind_some, nI_clamp (show p < 2 ^ 31 by omega), if_pos hc, Nat.add_assoc, Nat.reduceAdd]
  cases bt (μ (e + 1) 3) p <;> cases bt (μ (e + 4) p) 1 <;> simp
end TOUCH
