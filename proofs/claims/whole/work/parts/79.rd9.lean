/-! ===== calls that only read (9) ===== -/
section RD9
variable {b A m n h : Nat} {K N M s : gw_M} {L3 L2 : List Nat}
theorem rd_timed (hn : 1000 ≤ n) (g : G b (A + 1) m K N L3 L2 M s) (v w : Int32) : SAME (F_X10_timed n A v w M) (F_X11_timed n m v w s) := by
  obtain ⟨h, hh, h5, h15⟩ := G_hand g
  obtain ⟨T, hT, h7, -⟩ := G_time g
  obtain ⟨c, hc12, c1, c2⟩ := G_tc g
  have c1' : M (A + 22) 3 = nI c := c1
  simp only [F_X10_timed, F_X11_timed, c_within, m_isIn, Option.bind_some, c1', c2]
  by_cases hv : v = -1
  · rw [if_neg (not_not_intro hv), if_neg (not_not_intro hv)]; exact sm_eq rfl rfl
  · rw [if_pos hv, if_pos hv]
    rcases in_m v c (by omega) with h' | ⟨h', j, hj, rfl⟩
    · rw [h']; exact sm_eq rfl rfl
    · obtain ⟨t1, t2, t3, -, -⟩ := G_tm (n := n) g c2 hj hc12
      obtain ⟨u1, u2⟩ := rd_due (n := n) hn g hh h5 c2 hj hc12 hT h7
      rw [h', if_pos (show ¬ (1 : Int32) = 0 by decide), if_neg (show ¬ (1 : Int32) = 0 by decide), gi (k := j) (by omega) (by decide), gi (k := j) (by omega) (by decide), gi (k := j) (by omega) (by decide), nI_clamp (show j < 2 ^ 31 by omega), u1, u2]
      rcases in_c w 3 (by decide) 3 rfl with hw | ⟨hw, i, hi, rfl⟩
      · rw [hw]
        have n0 : ¬ w = 0 := by
          intro c; subst c; exact absurd hw (by decide)
        have n1 : ¬ w = (0 : Int32) + 1 := by
          intro c; subst c; exact absurd hw (by decide)
        have n2 : ¬ w = ((0 : Int32) + 1) + 1 := by
          intro c; subst c; exact absurd hw (by decide)
        have n3 : ¬ w = (((0 : Int32) + 1) + 1) + 1 := by
          intro c; subst c; exact absurd hw (by decide)
        rw [if_neg n0, if_neg n1, if_neg n2, if_neg n3]
        exact sm_eq rfl rfl
      · rw [hw, if_pos (show ¬ (1 : Int32) = 0 by decide)]
        match i, hi with
        | 0, _ =>
          rw [show F_X11_ofTimer n m (nI j) (nI 0) s = _ from t1]
          exact sm_eq rfl rfl
        | 1, _ =>
          rw [show F_X11_ofTimer n m (nI j) (nI 1) s = _ from t2]
          exact sm_eq rfl rfl
        | 2, _ =>
          rw [show F_X11_ofTimer n m (nI j) (nI 2) s = _ from t3]
          exact sm_eq rfl rfl
        | 3, _ => exact sm_eq rfl rfl
theorem rd_first6 (hn : 1000 ≤ n) (g : G b A m K N L3 L2 M s) (hh : h < 3) (h5 : M A 5 = nI h) {c T : Nat} (hc : s (m + 1) 26 = nI c) (hc12 : c ≤ 12) (hT : T ≤ 99999) (h7 : M A 7 = nI T) : ∀ (d k f1 f2 : Nat) (v u : Int32), k + d = c → d < f1 → d < f2 → (v = -1 ∨ ∃ j, j < k ∧ v = nI j ∧ u = low (nd A h j M) (T + 1) (100000 - (T + 1))) → SAME (F_X3_firstDue_6 n A f1 v u (nI k) M) (F_X11_first_4 n m f2 v (nI k) s) := by
  have hcc : M (A + 21) 3 = nI c := (G_rd g (i := 26) (c := 21) (j := 3) (by decide +kernel)).symm.trans hc
  intro d
  induction d with
  | zero =>
    intro k f1 f2 v u hk hf1 hf2 hv
    obtain ⟨f1, rfl⟩ : ∃ z, f1 = z + 1 := ⟨f1 - 1, by omega⟩
    obtain ⟨f2, rfl⟩ : ∃ z, f2 = z + 1 := ⟨f2 - 1, by omega⟩
    obtain rfl : k = c := by omega
    rw [F_X3_firstDue_6, F_X11_first_4, hcc, hc, if_pos (nI_le (by omega) (by omega)), if_pos (nI_le (by omega) (by omega))]
    exact sm_eq rfl rfl
  | succ d ih =>
    intro k f1 f2 v u hk hf1 hf2 hv
    obtain ⟨f1, rfl⟩ : ∃ z, f1 = z + 1 := ⟨f1 - 1, by omega⟩
    obtain ⟨f2, rfl⟩ : ∃ z, f2 = z + 1 := ⟨f2 - 1, by omega⟩
    have keep := ih (k + 1) f1 f2 v u (by omega) (by omega) (by omega) (hv.elim Or.inl (fun ⟨j, hj, hj2⟩ => Or.inr ⟨j, by omega, hj2⟩))
    have take := ih (k + 1) f1 f2 (nI k) (low (nd A h k M) (T + 1) (100000 - (T + 1))) (by omega) (by omega) (by omega) (Or.inr ⟨k, by omega, rfl, rfl⟩)
    obtain ⟨u1, u2⟩ := rd_due (n := n) hn g hh h5 hc (show k < c by omega) hc12 hT h7
    rw [F_X3_firstDue_6, F_X11_first_4, hcc, hc, if_neg (nI_ge (by omega) (by omega)), if_neg (nI_ge (by omega) (by omega)), u1, u2]
    simp only [Option.bind_some, F_X3_firstDue_62, F_X3_firstDue_67, F_X11_first_67, F_X11_first_69, gw_let, nI_1]
    by_cases hm : low (nd A h k M) (T + 1) (100000 - (T + 1)) = -1
    · rw [if_neg (not_not_intro hm), if_neg (not_not_intro hm)]
      exact keep
    · rw [if_pos hm, if_pos hm]
      rcases hv with rfl | ⟨j, hj, rfl, rfl⟩
      · rw [if_pos rfl, if_pos rfl]
        exact take
      · have hne : ¬ nI j = -1 := by rw [nI_m1 (by omega)]; exact id
        obtain ⟨-, w2⟩ := rd_due (n := n) hn g hh h5 hc (show j < c by omega) hc12 hT h7
        rw [if_neg hne, if_neg hne, w2]
        simp only [Option.bind_some]
        rw [c_ahead (by omega) hj, m_ahead g hc (by omega) (by omega) hc12, Option.bind_some, Option.bind_some]
        by_cases h1 : low (nd A h k M) (T + 1) (100000 - (T + 1)) < low (nd A h j M) (T + 1) (100000 - (T + 1))
        · rw [if_pos h1, if_pos h1]
          exact take
        · rw [if_neg h1, if_neg h1]
          by_cases h2 : low (nd A h k M) (T + 1) (100000 - (T + 1)) = low (nd A h j M) (T + 1) (100000 - (T + 1))
          · rw [if_neg (not_not_intro h2), if_neg (not_not_intro h2)]
            by_cases ha : ahd A k j M = 0
            · rw [if_pos ha, if_pos ha]
              exact keep
            · rw [if_neg ha, if_neg ha]
              exact take
          · rw [if_pos h2, if_pos h2]
            exact keep
theorem rd_first (hn : 1000 ≤ n) (g : G b (A + 1) m K N L3 L2 M s) : SAME (F_X10_first n A M) (F_X11_first n m s) := by
  obtain ⟨h, hh, h5, h15⟩ := G_hand g
  obtain ⟨T, hT, h7, -⟩ := G_time g
  obtain ⟨c, hc12, c1, c2⟩ := G_tc g
  obtain ⟨r, r1, r2⟩ := rd_first6 (n := n) hn g hh h5 c2 hc12 hT h7 c 0 n n (-1) (-1) (by omega) (by omega) (by omega) (Or.inl rfl)
  refine sm_eq (r := r) ?_ r2
  rw [F_X10_first, F_X3_firstDue, show F_X3_firstDue_6 n (A + 1) n (-1) (-1) 0 M = _ from r1, Option.bind_some]
end RD9
