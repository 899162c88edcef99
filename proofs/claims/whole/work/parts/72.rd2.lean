/-! ===== calls that only read (2) ===== -/
section RD2
variable {b A m n : Nat} {K N M s : gw_M} {L3 L2 : List Nat}
theorem in_m (v : Int32) (c : Nat) (hc : c < 2 ^ 31) : isin v 0 (nI c - 1) = 0 ∨ (isin v 0 (nI c - 1) = 1 ∧ ∃ j, j < c ∧ v = nI j) := by
  cases c with
  | zero =>
    left
    rcases isin_c v 0 (nI 0 - 1) with h | ⟨-, h1, h2⟩
    · exact h
    · have e1 : (0 : Int32).toInt = 0 := by decide
      have e2 : (nI 0 - 1).toInt = -1 := by decide
      omega
  | succ c =>
    rw [nI_pred]
    rcases isin_0 v c (by omega) with ⟨h, -⟩ | ⟨h, j, hj, e⟩
    · exact Or.inl h
    · exact Or.inr ⟨h, j, by omega, e⟩
theorem nI_sub {a b : Nat} (h : b ≤ a) : nI a - nI b = nI (a - b) := by
  rw [show nI a = nI (a - b) + nI b by rw [nI_add, Nat.sub_add_cancel h], Int32.add_sub_cancel]
theorem c_min24 {k : Nat} (hk : k < 2 ^ 31) : F_J9_min_7cf53 n (nI k) 24 M = some (nI (min k 24)) := by
  simp only [F_J9_min_7cf53]
  rw [show (24 : Int32) = nI 24 from rfl]
  by_cases h : 24 < k
  · rw [if_pos (by rw [nI_ltT (by omega) hk]; exact h), Nat.min_eq_right (by omega)]
  · rw [if_neg (by rw [nI_ltT (by omega) hk]; exact h), Nat.min_eq_left (by omega)]
theorem rd_told (g : G b (A + 1) m K N L3 L2 M s) (v p w : Int32) : SAME (F_X10_told n A v p w M) (F_X11_told n m v p w s) := by
  obtain ⟨h, hh, h5, h15⟩ := G_hand g
  simp only [F_X10_told, F_X11_told, F_X10_isPage, F_X11_isPage, c_within, m_isIn, Option.bind_some]
  rcases in_c v 3 (by decide) 3 rfl with hv | ⟨hv, k, hk, rfl⟩
  · rw [hv]; exact sm_eq rfl rfl
  · rw [hv, if_neg (show ¬ (1 : Int32) = 0 by decide), if_neg (show ¬ (1 : Int32) = 0 by decide)]
    rcases in_c p 15 (by decide) 15 rfl with hp | ⟨hp, q, hq, rfl⟩
    · rw [hp]; exact sm_eq rfl rfl
    · rw [hp, if_neg (show ¬ (1 : Int32) = 0 by decide), if_neg (show ¬ (1 : Int32) = 0 by decide)]
      rcases in_c w 1 (by decide) 1 rfl with hw | ⟨hw, j, hj, rfl⟩
      · rw [hw]; exact sm_eq rfl rfl
      · rw [hw, if_pos (show ¬ (1 : Int32) = 0 by decide), if_neg (show ¬ (1 : Int32) = 0 by decide)]
        have hq' : q < 16 := by omega
        obtain ⟨T, B, t1, t2, t3, hB, t4, t5⟩ : ∃ T B, F_X3_table n (A + 1) (nI k) M = some T ∧ F_X11_toOf n m (nI k) (nI q) s = some (s (m + 1) B) ∧ F_X11_entryAt n m (nI k) (nI q) s = some (nI B) ∧ B < 900 ∧ s (m + 1) B = M (T + 1) q ∧ s (m + 1) (B + 1) = M (T + 2) q := by
          match k, hk with
          | 0, _ =>
            refine ⟨A + 1 + 37 + 15 * h + 7, 299 + 162 * h + 32 * 0 + 2 * q, ?_, m_to01 (t := 0) hh h15 (by decide) hq', m_entry01 (t := 0) hh h15 (by decide) hq', by omega, ?_, ?_⟩
            · simp only [F_X3_table, gw_let]
              rw [if_pos (show nI 0 = (0 : Int32) from rfl), h5, gi hh (by decide), nI_clamp (by omega)]
            · rw [show A + 1 + 37 + 15 * h + 7 + 1 = A + 1 + (45 + 15 * h + 4 * 0) by omega]
              exact G_rd g (gd_e hh (by decide) hq').1
            · rw [show A + 1 + 37 + 15 * h + 7 + 2 = A + 1 + (46 + 15 * h + 4 * 0) by omega, show 299 + 162 * h + 32 * 0 + 2 * q + 1 = 300 + 162 * h + 32 * 0 + 2 * q by omega]
              exact G_rd g (gd_e hh (by decide) hq').2.1
          | 1, _ =>
            refine ⟨A + 1 + 37 + 15 * h + 11, 299 + 162 * h + 32 * 1 + 2 * q, ?_, m_to01 (t := 1) hh h15 (by decide) hq', m_entry01 (t := 1) hh h15 (by decide) hq', by omega, ?_, ?_⟩
            · simp only [F_X3_table, gw_let]
              rw [if_neg (show ¬ nI 1 = 0 by decide), if_pos (show nI 1 = (0 : Int32) + 1 by decide), h5, gi hh (by decide), nI_clamp (by omega)]
            · rw [show A + 1 + 37 + 15 * h + 11 + 1 = A + 1 + (45 + 15 * h + 4 * 1) by omega]
              exact G_rd g (gd_e hh (by decide) hq').1
            · rw [show A + 1 + 37 + 15 * h + 11 + 2 = A + 1 + (46 + 15 * h + 4 * 1) by omega, show 299 + 162 * h + 32 * 1 + 2 * q + 1 = 300 + 162 * h + 32 * 1 + 2 * q by omega]
              exact G_rd g (gd_e hh (by decide) hq').2.1
          | 2, _ =>
            refine ⟨A + 1 + 2, 706 + 2 * q, rfl, m_to2 hq', m_entry2 hq', by omega, G_rd g (gd_t2 q hq').1, ?_⟩
            rw [show 706 + 2 * q + 1 = 707 + 2 * q by omega]
            exact G_rd g (gd_t2 q hq').2.1
          | 3, _ =>
            refine ⟨A + 1 + 8, 754 + 2 * q, rfl, m_to3 hq', m_entry3 hq', by omega, G_rd g (gd_t2 q hq').2.2.1, ?_⟩
            rw [show 754 + 2 * q + 1 = 755 + 2 * q by omega]
            exact G_rd g (gd_t2 q hq').2.2.2.1
        rw [t1, t2, t3]
        simp only [Option.bind_some]
        rw [c_tabHas hq', Option.bind_some, t4, nI_add, gi (k := B + j) (by omega) (by decide), nI_clamp (show B + j < 2 ^ 31 by omega), gi (k := q) hq' (by decide), gi (k := q) hq' (by decide), nI_clamp (show q < 2 ^ 31 by omega)]
        by_cases h1 : M (T + 1) q = -1
        · rw [h1]; exact sm_eq rfl rfl
        · rw [if_neg h1, if_pos (show ¬ (1 : Int32) = 0 by decide), if_pos h1]
          match j, hj with
          | 0, _ => exact sm_eq rfl (congrArg some t4)
          | 1, _ => exact sm_eq rfl (congrArg some t5)
theorem rd_program (g : G b (A + 1) m K N L3 L2 M s) (v w u : Int32) : SAME (F_X10_program n A v w u M) (F_X11_program n m v w u s) := by
  simp only [F_X10_program, F_X11_program, F_X11_program_81]
  rcases gst2 n v g with ⟨z, hz, z4, h1, h2, h3, h4, k, hk, hv⟩ | ⟨h3, h4⟩
  · rw [h3, h4, h1, h2]
    simp only [Option.bind_some]
    obtain ⟨c, hc, y1, y2⟩ := G_n g (gd_g z z4).2.2.2.2.2.2 (n := 24) (gd_gq z z4).2.2.2.2
    have hP : gq_P (A + 1) M (s (m + 1)) := G_q g 1 (by decide)
    rw [if_pos (show ¬ (1 : Int32) = 0 by decide), if_pos (show ¬ (1 : Int32) = 0 by decide), show (6 : Int32) = nI 6 from rfl, nI_add, gi (k := 58 + 162 * z + 6) (by omega) (by decide), gi (k := 58 + 162 * z + 6) (by omega) (by decide), nI_clamp (show 58 + 162 * z + 6 < 2 ^ 31 by omega), show 58 + 162 * z + 6 = 64 + 162 * z by omega, y2, show A + 1 + gg_c z + 1 = A + 1 + (gg_c z + 1) from rfl, y1]
    by_cases hw : w = -1
    · rw [if_neg (not_not_intro hw), if_neg (not_not_intro hw)]; exact sm_eq rfl rfl
    · rw [if_pos hw, if_pos hw, c_within, m_isIn, Option.bind_some, Option.bind_some]
      rcases in_m w c (by omega) with h | ⟨h, j, hj, rfl⟩
      · rw [h]; exact sm_eq rfl rfl
      · rw [h, if_pos (show ¬ (1 : Int32) = 0 by decide), if_neg (show ¬ (1 : Int32) = 0 by decide), m_isIn, Option.bind_some]
        obtain ⟨-, pp⟩ := hP z z4
        obtain ⟨p1, p2, p3, -⟩ := pp j (by rw [y2, nI_toInt (by omega)]; omega) (by omega)
        rw [gi (k := j) (by omega) (by decide), gi (k := j) (by omega) (by decide), gi (k := j) (by omega) (by decide), nI_clamp (show j < 2 ^ 31 by omega)]
        rcases in_c u 2 (by decide) 2 rfl with h' | ⟨h', i, hi, rfl⟩
        · rw [h']
          have n0 : ¬ u = 0 := by
            intro c; subst c; exact absurd h' (by decide)
          have n1 : ¬ u = (0 : Int32) + 1 := by
            intro c; subst c; exact absurd h' (by decide)
          have n2 : ¬ u = ((0 : Int32) + 1) + 1 := by
            intro c; subst c; exact absurd h' (by decide)
          rw [if_neg n0, if_neg n1, if_neg n2]
          exact sm_eq rfl rfl
        · rw [h', if_neg (show ¬ (1 : Int32) = 0 by decide), show (7 : Int32) = nI 7 from rfl, show (3 : Int32) = nI 3 from rfl, pk_mul, nI_add, nI_add, nI_add, gi (k := 58 + 162 * z + 7 + 3 * j + i) (by omega) (by decide), nI_clamp (show 58 + 162 * z + 7 + 3 * j + i < 2 ^ 31 by omega)]
          match i, hi with
          | 0, _ =>
            rw [show 58 + 162 * z + 7 + 3 * j + 0 = 65 + 162 * z + 3 * j by omega, p1]
            exact sm_eq rfl rfl
          | 1, _ =>
            rw [show 58 + 162 * z + 7 + 3 * j + 1 = 66 + 162 * z + 3 * j by omega, p2]
            exact sm_eq rfl rfl
          | 2, _ =>
            rw [show 58 + 162 * z + 7 + 3 * j + 2 = 67 + 162 * z + 3 * j by omega, p3]
            exact sm_eq rfl rfl
  · rw [h3, h4]; exact sm_eq rfl rfl
theorem rd_heard (g : G b (A + 1) m K N L3 L2 M s) (v : Int32) : SAME (F_X10_heard n A v M) (F_X11_heard n m v s) := by
  obtain ⟨k, hk, q1, q2, q3⟩ : gq_H b (A + 1) M (s (m + 1)) := G_q g 7 (by decide)
  have hb := G_b g
  have q1' : M (A + 26) 8 = nI k := q1
  simp only [F_X10_heard, F_X11_heard, F_X2_heardAt, F_X2_heardKept, q1', q2, c_min24 (n := n) (M := M) (show k < 2 ^ 31 by omega), Option.bind_some, c_within, m_isIn]
  by_cases hv : v = -1
  · rw [if_neg (not_not_intro hv), if_neg (not_not_intro hv)]; exact sm_eq rfl rfl
  · rw [if_pos hv, if_pos hv]
    rcases in_m v (min k 24) (by omega) with h | ⟨h, j, hj, rfl⟩
    · rw [h]; exact sm_eq rfl rfl
    · have e1 : nI k - nI (min k 24) + nI j = nI (k - min k 24 + j) := by rw [nI_sub (by omega), nI_add]
      rw [h, if_pos (show ¬ (1 : Int32) = 0 by decide), if_neg (show ¬ (1 : Int32) = 0 by decide), e1, show (24 : Int32) = nI 24 from rfl, pk_rem (d := 24) (by omega) (by decide) (by decide), gi (k := (k - min k 24 + j) % 24) (by omega) (by decide), nI_clamp (show (k - min k 24 + j) % 24 < 2 ^ 31 by omega), show (837 : Int32) = nI 837 from rfl, nI_add, gi (k := 837 + j) (by omega) (by decide), nI_clamp (show 837 + j < 2 ^ 31 by omega), q3 j hj]
      exact sm_eq rfl rfl
end RD2
