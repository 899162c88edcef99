/-! ===== clocks ===== -/
theorem shr4 (x : Int32) : (x >>> ((4 : Int32) &&& 31)).toInt = x.toInt / 16 := by
  show (x >>> (nI 4 &&& 31)).toBitVec.toInt = _
  rw [Int32.toBitVec_shiftRight]
  show (x.toBitVec.sshiftRight ((nI 4 &&& 31).toBitVec.smod 32).toNat).toInt = _
  rw [s_l 4 (by decide), BitVec.toInt_sshiftRight, Int.shiftRight_eq_div_pow]
  rfl
theorem neg_bt (x : Int32) : x < 0 ↔ bt x 31 = true := by
  have h := BitVec.msb_eq_toInt (x := x.toBitVec)
  rw [BitVec.msb_eq_getLsbD_last] at h
  have h2 : bt x 31 = decide (x.toBitVec.toInt < 0) := h
  rw [h2, decide_eq_true_eq, Int32.lt_iff_toInt_lt]
  exact Iff.rfl
theorem i16 : (16 : Int32).toInt = 16 := by decide
theorem fd16 (n : Nat) (x : Int32) (μ : gw_M) : F_J9_floorDiv_7cf53 n x 16 μ = some (x >>> ((4 : Int32) &&& 31)) := by
  have hd : (x / 16).toInt = x.toInt.tdiv 16 := by
    have := Int32.toInt_div_of_ne_right x 16 (by decide)
    rw [i16] at this
    exact this
  have hs := shr4 x
  have hr1 := Int32.le_toInt x
  have hr2 := Int32.toInt_lt x
  have hx : (0 ≤ x ^^^ 16) ↔ 0 ≤ x.toInt := by
    have h1 := neg_bt (x ^^^ 16)
    have h2 := neg_bt x
    rw [b_xor, show bt 16 31 = false by decide +kernel, Bool.xor_false] at h1
    have h3 : (x ^^^ 16 < 0) ↔ x < 0 := h1.trans h2.symm
    rw [Int32.lt_iff_toInt_lt, Int32.lt_iff_toInt_lt] at h3
    rw [Int32.le_iff_toInt_le]
    have h0 : (0 : Int32).toInt = 0 := by decide
    omega
  simp only [F_J9_floorDiv_7cf53, gw_let]
  rw [if_pos (by decide)]
  by_cases h0 : 0 ≤ x.toInt
  · rw [if_pos (hx.mpr h0)]
    congr 1
    apply Int32.toInt_inj.mp
    rw [hd, hs, Int.tdiv_eq_ediv_of_nonneg h0]
  · rw [if_neg (fun c => h0 (hx.mp c))]
    have ht : x.toInt.tdiv 16 = -((-x.toInt) / 16) := by
      have := Int.neg_tdiv (-x.toInt) 16
      rw [Int.neg_neg] at this
      rw [this, Int.tdiv_eq_ediv_of_nonneg (by omega)]
    have hm : (x / 16 * 16).toInt = -((-x.toInt) / 16) * 16 := by
      rw [Int32.toInt_mul, hd, ht, i16]
      exact Int.bmod_eq_of_le (by omega) (by omega)
    by_cases hq : x / 16 * 16 = x
    · rw [if_pos hq]
      congr 1
      apply Int32.toInt_inj.mp
      rw [hd, hs, ht]
      rw [hq] at hm
      omega
    · rw [if_neg hq]
      congr 1
      apply Int32.toInt_inj.mp
      have hne : -((-x.toInt) / 16) * 16 ≠ x.toInt := by
        intro c
        apply hq
        apply Int32.toInt_inj.mp
        rw [hm, c]
      rw [Int32.toInt_sub, hd, hs, ht, show (1 : Int32).toInt = 1 by decide, Int.bmod_eq_of_le (by omega) (by omega)]
      omega
def clk (x sc of : Int32) : Int32 := ((x * sc) >>> ((4 : Int32) &&& 31)) + of
/-- the clock of a level at a time -/
def ckA (e h : Nat) (l t : Int32) (μ : gw_M) : Int32 := if l = 0 then t else if l = 1 then clk t (μ (e + 12) 5) (μ (e + 12) 6) else clk (clk t (μ (e + 12) 5) (μ (e + 12) 6)) (μ (e + gg_c (1 + h)) 5) (μ (e + gg_c (1 + h)) 6)
section CLOCK
variable {b e m n h : Nat} {K N : gw_M} {L3 L2 L : List Nat} {μ s : gw_M}
theorem c_clock (hh : h < 3) (h5 : μ e 5 = nI h) {l t : Int32} : F_X3_clockAt n e l t μ = some (ckA e h l t μ) := by
  simp only [F_X3_clockAt, F_X0_clockUpon, fd16, Option.bind_some, c_inHand hh h5, ckA, clk]
  rw [show e + 37 + 15 * h + 1 = e + gg_c (1 + h) by rw [gg_c1]; omega]
  by_cases h0 : l = 0
  · rw [if_neg (not_not_intro h0), if_pos h0]
  · rw [if_pos h0, if_neg h0]
    by_cases h1 : l = 1
    · rw [if_neg (not_not_intro h1), if_pos h1]
    · rw [if_pos h1, if_neg h1]
theorem m_ck1 (hG : G b e m K N L3 L2 μ s) {gu : Int32} {g : Nat} (hg : gg_is s m gu g) {f : Nat} {l t : Int32} (hl : ¬ l < gu) : F_X11_clockAt_5 n m (f + 1) l t gu s = F_X11_clockAt_5 n m f l (clk t (μ (e + gg_c g) 5) (μ (e + gg_c g) 6)) (gu + 1) s := by
  have hg4 := gg_lt hg
  obtain ⟨-, -, -, r4, r5, -⟩ := gd_g g hg4
  rw [F_X11_clockAt_5, if_neg hl]
  simp only [(m_guestAt (n := n) hg).1, Option.bind_some, show (3 : Int32) = nI 3 from rfl, nI_add, nI_clamp (show 58 + 162 * g + 3 < 2 ^ 31 by omega), gw_let]
  rw [show nI (58 + 162 * g) + (4 : Int32) = nI (58 + 162 * g + 4) from nI_add _ 4, nI_clamp (show 58 + 162 * g + 4 < 2 ^ 31 by omega), if_pos ⟨nI_pos' (by omega), by omega⟩, if_pos ⟨nI_pos' (by omega), by omega⟩, show 58 + 162 * g + 3 = 61 + 162 * g by omega, show 58 + 162 * g + 4 = 62 + 162 * g by omega, G_rd hG r4, G_rd hG r5]
  rfl
theorem m_clock (hn : 1000 ≤ n) (hG : G b e m K N L3 L2 μ s) (hh : h < 3) (h5 : μ e 5 = nI h) {l : Nat} (hl : l ≤ 2) {t : Int32} : F_X11_clockAt n m (nI l) t s = some (ckA e h (nI l) t μ) := by
  have g1 : gg_is s m 1 0 := Or.inl ⟨rfl, rfl⟩
  have g2 : gg_is s m 2 (1 + h) := Or.inr ⟨rfl, h, hh, G_s15 hG h5, rfl⟩
  obtain ⟨f, rfl⟩ : ∃ f, n = f + 1 + 1 + 1 := ⟨n - 3, by omega⟩
  unfold F_X11_clockAt ckA
  have : l = 0 ∨ l = 1 ∨ l = 2 := by omega
  rcases this with rfl | rfl | rfl
  · rw [F_X11_clockAt_5, if_pos (by decide), if_pos (by decide)]
  · rw [m_ck1 hG g1 (by decide), F_X11_clockAt_5, if_pos (by decide), if_neg (by decide), if_pos (by decide)]
    rfl
  · rw [m_ck1 hG g1 (by decide), show (1 : Int32) + 1 = 2 from rfl, m_ck1 hG g2 (by decide), F_X11_clockAt_5, if_pos (by decide), if_neg (by decide), if_neg (by decide)]
    rfl
/-! timers read -/
theorem G_tc (hG : G b e m K N L3 L2 μ s) : ∃ c, c ≤ 12 ∧ μ (e + 21) 3 = nI c ∧ s (m + 1) 26 = nI c := G_n hG (i := 26) (c := 21) (j := 3) (by decide +kernel) (n := 12) (by decide +kernel)
theorem m_ofT {i w : Nat} (hi : i < 12) (hw : w < 3) : F_X11_ofTimer n m (nI i) (nI w) s = some (s (m + 1) (957 + 3 * i + w)) := by
  simp only [F_X11_ofTimer, show (957 : Int32) = nI 957 from rfl, show (3 : Int32) = nI 3 from rfl, pk_mul, nI_add, nI_clamp (show 957 + 3 * i + w < 2 ^ 31 by omega)]
  rw [if_pos ⟨nI_pos' (by omega), by omega⟩]
/-- a timer's three numbers -/
theorem G_tm (hG : G b e m K N L3 L2 μ s) {c i : Nat} (hc : s (m + 1) 26 = nI c) (hi : i < c) (hc12 : c ≤ 12) : F_X11_ofTimer n m (nI i) 0 s = some (μ (e + 22) i) ∧ F_X11_ofTimer n m (nI i) 1 s = some (μ (e + 23) i) ∧ F_X11_ofTimer n m (nI i) 2 s = some (μ (e + 24) i) ∧ (∃ l, l ≤ 2 ∧ μ (e + 22) i = nI l) ∧ ∃ v, v ≤ 15 ∧ μ (e + 24) i = nI v := by
  obtain ⟨a1, a2, a3, a4, a5, a6, a7⟩ := G_q hG 3 (by decide) i (by rw [hc, nI_toInt (by omega)]; omega) (by omega)
  have t0 : F_X11_ofTimer n m (nI i) 0 s = _ := m_ofT (n := n) (w := 0) (show i < 12 by omega) (by decide)
  have t1 : F_X11_ofTimer n m (nI i) 1 s = _ := m_ofT (n := n) (w := 1) (show i < 12 by omega) (by decide)
  have t2 : F_X11_ofTimer n m (nI i) 2 s = _ := m_ofT (n := n) (w := 2) (show i < 12 by omega) (by decide)
  rw [show 957 + 3 * i + 0 = 957 + 3 * i by omega, a1] at t0
  rw [show 957 + 3 * i + 1 = 958 + 3 * i by omega, a2] at t1
  rw [show 957 + 3 * i + 2 = 959 + 3 * i by omega, a3] at t2
  rw [a1] at a4 a5
  rw [a3] at a6 a7
  exact ⟨t0, t1, t2, nI_of_rg (n := 2) a4 (by omega), nI_of_rg (n := 15) a6 (by omega)⟩
def ahd (e i j : Nat) (μ : gw_M) : Int32 := if μ (e + 22) i = μ (e + 22) j then (if μ (e + 23) j ≤ μ (e + 23) i then 0 else 1) else (if μ (e + 22) j ≤ μ (e + 22) i then 0 else 1)
theorem c_ahead {i j : Nat} (hi : i < 12) (hj : j < i) : F_X9_isAhead n (e + 21) (nI i) (nI j) μ = some (ahd e i j μ) := by
  have hci : 0 ≤ nI i ∧ i < 12 := ⟨nI_pos' (by omega), by omega⟩
  have hcj : 0 ≤ nI j ∧ j < 12 := ⟨nI_pos' (by omega), by omega⟩
  simp only [F_X9_isAhead, nI_clamp (show i < 2 ^ 31 by omega), nI_clamp (show j < 2 ^ 31 by omega), if_pos hci, if_pos hcj, Nat.add_assoc, Nat.reduceAdd, ahd]
  by_cases h1 : μ (e + 22) i = μ (e + 22) j
  · rw [if_pos h1, if_pos h1]
    by_cases h2 : μ (e + 23) i = μ (e + 23) j
    · rw [if_pos h2, h2, if_pos (nI_le (by omega) (by omega)), if_pos (Int32.le_iff_toInt_le.mpr (Int.le_refl _))]
    · rw [if_neg h2]
      split <;> rfl
  · rw [if_neg h1, if_neg h1]
    split <;> rfl
theorem m_ahead (hG : G b e m K N L3 L2 μ s) {c i j : Nat} (hc : s (m + 1) 26 = nI c) (hi : i < c) (hj : j < c) (hc12 : c ≤ 12) : F_X11_isAhead n m (nI i) (nI j) s = some (ahd e i j μ) := by
  obtain ⟨i0, i1, -⟩ := G_tm (n := n) hG hc hi hc12
  obtain ⟨j0, j1, -⟩ := G_tm (n := n) hG hc hj hc12
  simp only [F_X11_isAhead, F_X11_isAhead_20, i0, j0, i1, j1, Option.bind_some, ahd]
  by_cases h1 : μ (e + 22) i = μ (e + 22) j
  · rw [if_pos h1, if_pos h1]
    split <;> rfl
  · rw [if_neg h1, if_neg h1]
    split <;> rfl
theorem m_isDue (hn : 1000 ≤ n) (hG : G b e m K N L3 L2 μ s) (hh : h < 3) (h5 : μ e 5 = nI h) {c i : Nat} (hc : s (m + 1) 26 = nI c) (hi : i < c) (hc12 : c ≤ 12) {t : Int32} : F_X11_isDue n m (nI i) t s = some (if ckA e h (μ (e + 22) i) t μ < μ (e + 23) i then 0 else 1) := by
  obtain ⟨i0, i1, -, ⟨l, hl, hl2⟩, -⟩ := G_tm (n := n) hG hc hi hc12
  simp only [F_X11_isDue, i0, i1, Option.bind_some, hl2, m_clock hn hG hh h5 hl]
  split <;> rfl
/-- the first that is due now, both sides -/
theorem sim_first4 (hn : 1000 ≤ n) (hG : G b e m K N L3 L2 μ s) (hh : h < 3) (h5 : μ e 5 = nI h) {c : Nat} (hc : s (m + 1) 26 = nI c) (hc12 : c ≤ 12) : ∀ (d k f1 f2 : Nat) (v : Int32), k + d = c → d < f1 → d < f2 → (v = -1 ∨ ∃ j, j < k ∧ v = nI j) → ∃ r, F_X3_nextDueNow_4 n e f1 v (nI k) μ = some r ∧ F_X11_firstDue_4 n m f2 v (nI k) s = some r ∧ (r = -1 ∨ ∃ j, j < c ∧ r = nI j) := by
  have h7 : s (m + 1) 3 = μ e 7 := G_rd hG (i := 3) (c := 0) (j := 7) (by decide +kernel)
  have hcc : μ (e + 21) 3 = nI c := (G_rd hG (i := 26) (c := 21) (j := 3) (by decide +kernel)).symm.trans hc
  intro d
  induction d with
  | zero =>
    intro k f1 f2 v hk hf1 hf2 hv
    obtain ⟨f1, rfl⟩ : ∃ z, f1 = z + 1 := ⟨f1 - 1, by omega⟩
    obtain ⟨f2, rfl⟩ : ∃ z, f2 = z + 1 := ⟨f2 - 1, by omega⟩
    have : k = c := by omega
    subst this
    rw [F_X3_nextDueNow_4, F_X11_firstDue_4, hcc, hc, if_pos (nI_le (by omega) (by omega)), if_pos (nI_le (by omega) (by omega))]
    exact ⟨v, rfl, rfl, hv⟩
  | succ d ih =>
    intro k f1 f2 v hk hf1 hf2 hv
    obtain ⟨f1, rfl⟩ : ∃ z, f1 = z + 1 := ⟨f1 - 1, by omega⟩
    obtain ⟨f2, rfl⟩ : ∃ z, f2 = z + 1 := ⟨f2 - 1, by omega⟩
    have hck : 0 ≤ nI k ∧ k < 12 := ⟨nI_pos' (by omega), by omega⟩
    have keep := ih (k + 1) f1 f2 v (by omega) (by omega) (by omega) (hv.elim Or.inl (fun ⟨j, hj, hj2⟩ => Or.inr ⟨j, by omega, hj2⟩))
    have take := ih (k + 1) f1 f2 (nI k) (by omega) (by omega) (by omega) (Or.inr ⟨k, by omega, rfl⟩)
    rw [F_X3_nextDueNow_4, F_X11_firstDue_4, hcc, hc, if_neg (nI_ge (by omega) (by omega)), if_neg (nI_ge (by omega) (by omega))]
    simp only [nI_clamp (show k < 2 ^ 31 by omega), if_pos hck, c_clock hh h5, Option.bind_some, m_isDue hn hG hh h5 hc (show k < c by omega) hc12, h7, F_X3_nextDueNow_49, F_X3_nextDueNow_71, F_X3_nextDueNow_73, F_X11_firstDue_43, F_X11_firstDue_45, gw_let, nI_1]
    by_cases hdue : ckA e h (μ (e + 22) k) (μ e 7) μ < μ (e + 23) k
    · rw [if_pos hdue, if_pos hdue, if_pos trivial, if_pos rfl]
      exact keep
    · rw [if_neg hdue, if_neg hdue, if_neg (show ¬ (1 : Int32) = 0 by decide), if_neg (show ¬ (1 : Int32) = 0 by decide)]
      rcases hv with rfl | ⟨j, hj, rfl⟩
      · rw [if_pos rfl, if_pos rfl]
        exact take
      · have hne : ¬ nI j = -1 := by rw [nI_m1 (by omega)]; exact id
        rw [if_neg hne, if_neg hne, c_ahead (by omega) hj, m_ahead hG hc (by omega) (by omega) hc12, Option.bind_some, Option.bind_some]
        by_cases ha : ahd e k j μ = 0
        · rw [if_pos ha, if_pos ha]
          exact keep
        · rw [if_neg ha, if_neg ha]
          exact take
theorem sim_firstNow (hn : 1000 ≤ n) (hG : G b e m K N L3 L2 μ s) (hh : h < 3) (h5 : μ e 5 = nI h) {c : Nat} (hc : s (m + 1) 26 = nI c) (hc12 : c ≤ 12) : ∃ r, F_X3_nextDueNow n e μ = some r ∧ F_X11_firstDue n m s = some r ∧ (r = -1 ∨ ∃ j, j < c ∧ r = nI j) :=
  sim_first4 (n := n) hn hG hh h5 hc hc12 c 0 n n (-1) (by omega) (by omega) (by omega) (Or.inl rfl)
end CLOCK
