/-! ===== readings ===== -/
theorem gd_t2 : ∀ p < 16, gd (706 + 2 * p) = some (3, p) ∧ gd (707 + 2 * p) = some (4, p) ∧ gd (754 + 2 * p) = some (9, p) ∧ gd (755 + 2 * p) = some (10, p) ∧ gd (812 + p) = some (7, p) := by decide +kernel
theorem gd_q2 : ∀ p < 16, gd_q (706 + 2 * p) = (-1, 9, 0) ∧ gd_q (707 + 2 * p) = (0, 7, 0) ∧ gd_q (754 + 2 * p) = (-1, 9, 0) ∧ gd_q (755 + 2 * p) = (0, 7, 0) ∧ gd_q (812 + p) = (-1, 9999, 0) := by decide +kernel
theorem gd_fr : ∀ f < 10, gd (802 + f) = some (6, f) ∧ gd_q (802 + f) = (0, 9999, 0) := by decide +kernel
theorem gd_hn : ∀ r < 9, gd (828 + r) = some (20, r) ∧ gd_q (828 + r) = (-1, 23, 0) := by decide +kernel
theorem gd_g : ∀ g < 4, gd (58 + 162 * g) = some (gg_c g, 2) ∧ gd (59 + 162 * g) = some (gg_c g, 3) ∧ gd (60 + 162 * g) = some (gg_c g, 4) ∧ gd (61 + 162 * g) = some (gg_c g, 5) ∧ gd (62 + 162 * g) = some (gg_c g, 6) ∧ gd (63 + 162 * g) = some (gg_c g + 1, 4) ∧ gd (64 + 162 * g) = some (gg_c g + 1, 3) := by decide +kernel
theorem gd_gq : ∀ g < 4, gd_q (60 + 162 * g) = (0, 1, 0) ∧ gd_q (61 + 162 * g) = (1, 64, 0) ∧ gd_q (62 + 162 * g) = (-9999, 9999, 0) ∧ gd_q (63 + 162 * g) = (0, 23, 0) ∧ gd_q (64 + 162 * g) = (0, 24, 0) := by decide +kernel
def gd_eP (h t p : Nat) : Bool := decide (gd (299 + 162 * h + 32 * t + 2 * p) = some (45 + 15 * h + 4 * t, p)) && decide (gd (300 + 162 * h + 32 * t + 2 * p) = some (46 + 15 * h + 4 * t, p)) && decide (gd_q (299 + 162 * h + 32 * t + 2 * p) = (-1, 15, 0)) && decide (gd_q (300 + 162 * h + 32 * t + 2 * p) = (0, 7, 0))
theorem gd_e0 : ∀ z < 96, gd_eP (z / 32) (z / 16 % 2) (z % 16) = true := by decide +kernel
theorem gd_e {h t p : Nat} (hh : h < 3) (ht : t < 2) (hp : p < 16) : gd (299 + 162 * h + 32 * t + 2 * p) = some (45 + 15 * h + 4 * t, p) ∧ gd (300 + 162 * h + 32 * t + 2 * p) = some (46 + 15 * h + 4 * t, p) ∧ gd_q (299 + 162 * h + 32 * t + 2 * p) = (-1, 15, 0) ∧ gd_q (300 + 162 * h + 32 * t + 2 * p) = (0, 7, 0) := by
  have h1 := gd_e0 (32 * h + 16 * t + p) (by omega)
  rw [show (32 * h + 16 * t + p) / 32 = h by omega, show (32 * h + 16 * t + p) / 16 % 2 = t by omega, show (32 * h + 16 * t + p) % 16 = p by omega] at h1
  simpa [gd_eP, and_assoc] using h1
theorem gd_i3 : ∀ h < 3, gd (363 + 162 * h) = some (37 + 15 * h, 3) ∧ gd (364 + 162 * h) = some (37 + 15 * h, 4) ∧ gd (365 + 162 * h) = some (37 + 15 * h, 5) ∧ gd_q (363 + 162 * h) = (-1, 23, 0) ∧ gd_q (364 + 162 * h) = (-1, 15, 0) ∧ gd_q (365 + 162 * h) = (-1, 23, 0) := by decide +kernel
theorem gd_2 : ∀ k < 2, gd (9 + k) = some (34, k) ∧ gd (17 + k) = some (19, k) ∧ gd (19 + k) = some (35, k) ∧ gd (56 + k) = some (36, k) ∧ gd (5 + k) = some (30, k) := by decide +kernel
theorem gd_sp : ∀ k < 4, gd (28 + k) = some (33, k) := by decide +kernel
theorem gd_so : ∀ k < 24, gd (32 + k) = some (32, k) := by decide +kernel
/-- an index of which nothing is asked -/
def gd_any (i : Nat) : Bool := decide (gd_q i = (-2147483648, 2147483647, 0))
theorem gq_any {b i : Nat} {v : Int32} (h : gd_any i = true) : gq_r b i v := by
  have h1 : gd_q i = (-2147483648, 2147483647, 0) := by simpa [gd_any] using h
  unfold gq_r
  rw [h1]
  have := Int32.le_toInt v
  have := Int32.toInt_lt v
  refine ⟨by omega, ?_⟩
  show v.toInt ≤ 2147483647 + ((0 : Nat) : Int) * b
  omega
theorem gq_nI {b i k n : Nat} {l : Int} (hq : gd_q i = (l, (n : Int), 0)) (hl : l ≤ 0) (hk : k ≤ n) (hn : n < 2 ^ 31) : gq_r b i (nI k) := by
  unfold gq_r
  rw [hq, nI_toInt (by omega)]
  refine ⟨by show l ≤ k; omega, ?_⟩
  show (k : Int) ≤ n + ((0 : Nat) : Int) * b
  omega
theorem gq_m1 {b i : Nat} {n : Int} (hq : gd_q i = (-1, n, 0)) (hn : 0 ≤ n) : gq_r b i (-1) := by
  unfold gq_r
  rw [hq]
  have : (-1 : Int32).toInt = -1 := by decide
  refine ⟨by rw [this]; exact Int.le_refl _, ?_⟩
  rw [this]
  show (-1 : Int) ≤ n + ((0 : Nat) : Int) * b
  omega
theorem gq_b {b i k : Nat} (hq : gd_q i = (0, 0, 1)) (hk : k ≤ b) (hb : b < 2 ^ 31) : gq_r b i (nI k) := by
  unfold gq_r
  rw [hq, nI_toInt (by omega)]
  refine ⟨by show (0 : Int) ≤ k; omega, ?_⟩
  show (k : Int) ≤ 0 + ((1 : Nat) : Int) * b
  omega
section READ
variable {b e m n : Nat} {K N : gw_M} {L3 L2 : List Nat} {μ s : gw_M}
theorem G_n (h : G b e m K N L3 L2 μ s) {i c j : Nat} (hi : gd i = some (c, j)) {n : Nat} (hq : gd_q i = (0, (n : Int), 0)) : ∃ k, k ≤ n ∧ μ (e + c) j = nI k ∧ s (m + 1) i = nI k := by
  have h1 := G_rg h hi
  unfold gq_r at h1
  rw [hq] at h1
  obtain ⟨k, hk, hv⟩ := nI_of_rg (n := n) h1.1 (by have := h1.2; simp only at this; omega)
  exact ⟨k, hk, hv, (G_rd h hi).trans hv⟩
theorem G_n1 (h : G b e m K N L3 L2 μ s) {i c j : Nat} (hi : gd i = some (c, j)) {n : Nat} (hq : gd_q i = (-1, (n : Int), 0)) : (μ (e + c) j = -1 ∧ s (m + 1) i = -1) ∨ ∃ k, k ≤ n ∧ μ (e + c) j = nI k ∧ s (m + 1) i = nI k := by
  have h1 := G_rg h hi
  unfold gq_r at h1
  rw [hq] at h1
  rcases nI_of_rg1 (n := n) h1.1 (by have := h1.2; simp only at this; omega) with hv | ⟨k, hk, hv⟩
  · exact Or.inl ⟨hv, (G_rd h hi).trans hv⟩
  · exact Or.inr ⟨k, hk, hv, (G_rd h hi).trans hv⟩
theorem G_nb (h : G b e m K N L3 L2 μ s) {i c j : Nat} (hi : gd i = some (c, j)) (hq : gd_q i = (0, 0, 1)) : ∃ k, k ≤ b ∧ μ (e + c) j = nI k ∧ s (m + 1) i = nI k := by
  have h1 := G_rg h hi
  unfold gq_r at h1
  rw [hq] at h1
  obtain ⟨k, hk, hv⟩ := nI_of_rg (n := b) h1.1 (by have := h1.2; simp only at this; omega)
  exact ⟨k, hk, hv, (G_rd h hi).trans hv⟩
theorem G_b (h : G b e m K N L3 L2 μ s) : b < 2 ^ 28 := h.2.2.1
theorem G_q (h : G b e m K N L3 L2 μ s) (k : Nat) (hk : k < 9) : gq k b e L3 L2 μ (s (m + 1)) := h.2.2.2.2 k hk
theorem G_hand (h : G b e m K N L3 L2 μ s) : ∃ k, k < 3 ∧ μ e 5 = nI k ∧ s (m + 1) 15 = nI k := by
  obtain ⟨k, h1, h2, h3⟩ := G_n h (i := 15) (c := 0) (j := 5) (by decide +kernel) (n := 2) (by decide +kernel)
  exact ⟨k, by omega, h2, h3⟩
theorem G_level (h : G b e m K N L3 L2 μ s) : s (m + 1) 2 = μ e 6 ∧ (μ e 6 = 1 ∨ μ e 6 = 2) := by
  have hi : gd 2 = some (0, 6) := by decide +kernel
  have hq : gd_q 2 = (1, 2, 0) := by decide +kernel
  have h1 := G_rg h hi
  unfold gq_r at h1
  rw [hq] at h1
  refine ⟨G_rd h hi, ?_⟩
  obtain ⟨k, hk, hv⟩ := nI_of_rg (v := μ (e + 0) 6) (n := 2) (by have := h1.1; simp only at this; omega) (by have := h1.2; simp only at this; omega)
  rw [hv, nI_toInt (by omega)] at h1
  have h3 : μ e 6 = nI k := hv
  have h4 : k = 1 ∨ k = 2 := by have := h1.1; simp only at this; omega
  rcases h4 with rfl | rfl
  · exact Or.inl h3
  · exact Or.inr h3
theorem G_time (h : G b e m K N L3 L2 μ s) : ∃ k, k ≤ 99999 ∧ μ e 7 = nI k ∧ s (m + 1) 3 = nI k := G_n h (i := 3) (c := 0) (j := 7) (by decide +kernel) (n := 99999) (by decide +kernel)
theorem G_sh (h : G b e m K N L3 L2 μ s) {p : Nat} (hp : p < 16) : (μ (e + 3) p = -1 ∧ s (m + 1) (706 + 2 * p) = -1) ∨ ∃ k, k ≤ 9 ∧ μ (e + 3) p = nI k ∧ s (m + 1) (706 + 2 * p) = nI k := G_n1 h (gd_t2 p hp).1 (gd_q2 p hp).1
/-- a guest: which part -/
def gg_is (s : gw_M) (m : Nat) (gu : Int32) (g : Nat) : Prop := (gu = 1 ∧ g = 0) ∨ (gu = 2 ∧ ∃ h, h < 3 ∧ s (m + 1) 15 = nI h ∧ g = 1 + h)
theorem m_guestAt {gu : Int32} {g : Nat} (hg : gg_is s m gu g) : F_X11_guestAt n m gu s = some (nI (58 + 162 * g)) ∧ g < 4 := by
  rcases hg with ⟨rfl, rfl⟩ | ⟨rfl, h, hh, h1, rfl⟩
  · exact ⟨rfl, by decide⟩
  · refine ⟨?_, by omega⟩
    simp only [F_X11_guestAt, h1]
    rw [if_pos (by decide)]
    match h, hh with
    | 0, _ => rfl
    | 1, _ => rfl
    | 2, _ => rfl
theorem c_guest {gu : Int32} {g : Nat} (hG : G b e m K N L3 L2 μ s) (hg : gg_is s m gu g) : F_X3_guest n e gu μ = some (e + gg_c g) := by
  rcases hg with ⟨rfl, rfl⟩ | ⟨rfl, h, hh, h1, rfl⟩
  · rfl
  · obtain ⟨k, hk, h2, h3⟩ := G_hand hG
    rw [h1] at h3
    have := nI_inj (by omega) (by omega) h3
    subst this
    simp only [F_X3_guest, h2, gw_let]
    rw [if_pos (by decide), if_pos (of_eq_true (ckN hh (by decide))), nI_clamp (by omega)]
    match h, hh with
    | 0, _ => rfl
    | 1, _ => rfl
    | 2, _ => rfl
theorem c_inHand {h : Nat} (hh : h < 3) (h1 : μ e 5 = nI h) : F_X3_inHand n e μ = some (e + 37 + 15 * h) := by
  simp only [F_X3_inHand, h1, gw_let]
  rw [if_pos (of_eq_true (ckN hh (by decide))), nI_clamp (by omega)]
theorem m_entry2 {p : Nat} (hp : p < 16) : F_X11_entryAt n m 2 (nI p) s = some (nI (706 + 2 * p)) := by
  simp only [F_X11_entryAt]
  rw [if_pos (by decide), if_neg (by decide), show (706 : Int32) = nI 706 from rfl, show (2 : Int32) = nI 2 from rfl, pk_mul, nI_add]
theorem m_entry3 {p : Nat} (hp : p < 16) : F_X11_entryAt n m 3 (nI p) s = some (nI (754 + 2 * p)) := by
  simp only [F_X11_entryAt]
  rw [if_neg (by decide), show (754 : Int32) = nI 754 from rfl, show (2 : Int32) = nI 2 from rfl, pk_mul, nI_add]
theorem m_entry01 {h t p : Nat} (hh : h < 3) (h1 : s (m + 1) 15 = nI h) (ht : t < 2) (hp : p < 16) : F_X11_entryAt n m (nI t) (nI p) s = some (nI (299 + 162 * h + 32 * t + 2 * p)) := by
  simp only [F_X11_entryAt, (m_guestAt (n := n) (Or.inr ⟨rfl, h, hh, h1, rfl⟩)).1, Option.bind_some]
  rw [if_pos, if_pos, show (79 : Int32) = nI 79 from rfl, show (2 : Int32) = nI 2 from rfl, show (32 : Int32) = nI 32 from rfl, pk_mul, pk_mul, nI_add, nI_add, nI_add, show 58 + 162 * (1 + h) + 79 + 32 * t + 2 * p = 299 + 162 * h + 32 * t + 2 * p by omega]
  · rw [show (2 : Int32) = nI 2 from rfl, nI_eqT (by omega) (by omega)]; omega
  · rw [show (3 : Int32) = nI 3 from rfl, nI_eqT (by omega) (by omega)]; omega
theorem m_to2 {p : Nat} (hp : p < 16) : F_X11_toOf n m 2 (nI p) s = some (s (m + 1) (706 + 2 * p)) := by
  simp only [F_X11_toOf, m_entry2 hp, Option.bind_some]
  rw [if_pos (of_eq_true (ckN (by omega) (by omega))), nI_clamp (by omega)]
theorem m_to3 {p : Nat} (hp : p < 16) : F_X11_toOf n m 3 (nI p) s = some (s (m + 1) (754 + 2 * p)) := by
  simp only [F_X11_toOf, m_entry3 hp, Option.bind_some]
  rw [if_pos (of_eq_true (ckN (by omega) (by omega))), nI_clamp (by omega)]
theorem m_to01 {h t p : Nat} (hh : h < 3) (h1 : s (m + 1) 15 = nI h) (ht : t < 2) (hp : p < 16) : F_X11_toOf n m (nI t) (nI p) s = some (s (m + 1) (299 + 162 * h + 32 * t + 2 * p)) := by
  simp only [F_X11_toOf, m_entry01 hh h1 ht hp, Option.bind_some]
  rw [if_pos (of_eq_true (ckN (by omega) (by omega))), nI_clamp (by omega)]
theorem m_copied {p : Nat} (hp : p < 16) : F_X11_isCopied n m (nI p) s = some (if bt (s (m + 1) 27) p then 1 else 0) := by
  simp only [F_X11_isCopied, m_has n _ (show p < 32 by omega), Option.bind_some]
theorem m_rights2 (hT : gq_T (s (m + 1))) {p : Nat} (hp : p < 16) : F_X11_rightsOf n m 2 (nI p) s = some (gr_2 (s (m + 1)) p) := by
  simp only [F_X11_rightsOf, m_entry2 hp, Option.bind_some, F_X11_rightsOf_51, gw_let, m_copied hp]
  rw [if_pos (of_eq_true (ckN (by omega) (by omega))), nI_clamp (by omega), nI_1, if_pos (of_eq_true (ckN (by omega) (by omega))), nI_clamp (by omega)]
  by_cases h0 : s (m + 1) (706 + 2 * p) = -1
  · have h2 := (hT p hp).1 h0
    rw [if_neg (fun c => c h0), gr_2, h2]
    split <;> rfl
  · rw [if_pos h0, if_neg (fun c => c trivial), gr_2, show 706 + 2 * p + 1 = 707 + 2 * p by omega]
    show (if (if (bt (s (m + 1) 27) p) = true then (1 : Int32) else 0) = 0 then _ else _) = some (if bt (s (m + 1) 27) p = true then _ else _)
    cases bt (s (m + 1) 27) p
    · rfl
    · rfl
theorem m_rights01 (hT : gq_T (s (m + 1))) {h t p : Nat} (hh : h < 3) (h1 : s (m + 1) 15 = nI h) (ht : t < 2) (hp : p < 16) : F_X11_rightsOf n m (nI t) (nI p) s = some (s (m + 1) (300 + 162 * h + 32 * t + 2 * p)) := by
  simp only [F_X11_rightsOf, m_entry01 hh h1 ht hp, Option.bind_some, F_X11_rightsOf_51, gw_let]
  rw [if_pos (of_eq_true (ckN (by omega) (by omega))), nI_clamp (by omega), nI_1, if_pos (of_eq_true (ckN (by omega) (by omega))), nI_clamp (by omega)]
  rw [show 299 + 162 * h + 32 * t + 2 * p + 1 = 300 + 162 * h + 32 * t + 2 * p by omega]
  by_cases h0 : s (m + 1) (299 + 162 * h + 32 * t + 2 * p) = -1
  · rw [if_neg (fun c => c h0), (hT p hp).2.2 h t hh ht h0]
  · rw [if_pos h0, if_pos]
    rw [show (2 : Int32) = nI 2 from rfl, nI_eqT (by omega) (by omega)]; omega
theorem m_rights3 (hT : gq_T (s (m + 1))) {p : Nat} (hp : p < 16) : F_X11_rightsOf n m 3 (nI p) s = some (s (m + 1) (755 + 2 * p)) := by
  simp only [F_X11_rightsOf, m_entry3 hp, Option.bind_some, F_X11_rightsOf_51, gw_let]
  rw [if_pos (of_eq_true (ckN (by omega) (by omega))), nI_clamp (by omega), nI_1, if_pos (of_eq_true (ckN (by omega) (by omega))), nI_clamp (by omega)]
  rw [show 754 + 2 * p + 1 = 755 + 2 * p by omega]
  by_cases h0 : s (m + 1) (754 + 2 * p) = -1
  · rw [if_neg (fun c => c h0), (hT p hp).2.1 h0]
  · rw [if_pos h0, if_pos (by decide)]
theorem m_gives2 (hT : gq_T (s (m + 1))) {p w : Nat} (hp : p < 16) (hw : w < 32) : F_X11_gives n m 2 (nI p) (nI w) s = some (if bt (gr_2 (s (m + 1)) p) w then 1 else 0) := by
  simp only [F_X11_gives, m_rights2 hT hp, Option.bind_some, m_has n _ hw]
theorem m_gives3 (hT : gq_T (s (m + 1))) {p w : Nat} (hp : p < 16) (hw : w < 32) : F_X11_gives n m 3 (nI p) (nI w) s = some (if bt (s (m + 1) (755 + 2 * p)) w then 1 else 0) := by
  simp only [F_X11_gives, m_rights3 hT hp, Option.bind_some, m_has n _ hw]
theorem m_gives01 (hT : gq_T (s (m + 1))) {h t p w : Nat} (hh : h < 3) (h1 : s (m + 1) 15 = nI h) (ht : t < 2) (hp : p < 16) (hw : w < 32) : F_X11_gives n m (nI t) (nI p) (nI w) s = some (if bt (s (m + 1) (300 + 162 * h + 32 * t + 2 * p)) w then 1 else 0) := by
  simp only [F_X11_gives, m_rights01 hT hh h1 ht hp, Option.bind_some, m_has n _ hw]
theorem c_tabHas {a p : Nat} (hp : p < 16) : F_X8_has n a (nI p) μ = some (if μ (a + 1) p = -1 then 0 else 1) := by
  simp only [F_X8_has]
  rw [if_pos (of_eq_true (ckN hp (by omega))), nI_clamp (by omega)]
  split <;> rfl
theorem c_tabGives {a p w : Nat} (hp : p < 16) (hw : w < 32) : F_X8_gives n a (nI p) (nI w) μ = some (if bt (μ (a + 2) p) w then 1 else 0) := by
  simp only [F_X8_gives]
  rw [if_pos (of_eq_true (ckN hp (by omega))), nI_clamp (by omega), c_has n _ hw]
  rfl
theorem c_rightsGiven (hG : G b e m K N L3 L2 μ s) {p : Nat} (hp : p < 16) : F_X4_rightsGiven n (e + 1) (nI p) μ = some (gr_2 (s (m + 1)) p) := by
  have h1 : s (m + 1) 27 = μ (e + 1) 3 := G_rd hG (by decide +kernel)
  have h2 := G_rd hG (gd_t2 p hp).2.1
  simp only [F_X4_rightsGiven, F_X4_rightsGiven_16, b_hb0 _ (show p < 32 by omega), nI_clamp (show p < 2 ^ 31 by omega), gr_2, h1, h2]
  have hc : 0 ≤ nI p ∧ p < 16 := ⟨nI_pos' (by omega), hp⟩
  simp only [if_pos hc]
  show (if bt (μ (e + 1) 3) p = false then _ else _) = some (if bt (μ (e + 1) 3) p = true then _ else _)
  cases bt (μ (e + 1) 3) p
  · simp [Nat.add_assoc]
  · simp [Nat.add_assoc]
end READ
