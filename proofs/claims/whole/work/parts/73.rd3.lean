/-! ===== calls that only read (3) ===== -/
section RD3
variable {b A m n h : Nat} {K N M s : gw_M} {L3 L2 : List Nat}
theorem rd_exit (g : G b (A + 1) m K N L3 L2 M s) (v w : Int32) : SAME (F_X10_exit n A v w M) (F_X11_exit n m v w s) := by
  obtain ⟨n5, n6, q1, q2, q3, q4, q5, q6⟩ : gq_X b (A + 1) M (s (m + 1)) := G_q g 6 (by decide)
  have hb := G_b g
  have a1 : M (A + 31) 0 = nI n5 := (G_rd g (i := 5) (c := 30) (j := 0) (by decide +kernel)).symm.trans q1
  have a2 : M (A + 31) 1 = nI n6 := (G_rd g (i := 6) (c := 30) (j := 1) (by decide +kernel)).symm.trans q2
  have a3 : F_X2_allExits n (A + 26) M = some (nI (n5 + n6)) := by
    show some (M (A + 31) 0 + M (A + 31) 1) = _
    rw [a1, a2, nI_add]
  simp only [F_X10_exit, F_X11_exit, F_X11_exit_56, F_X2_exitAt, F_X2_exitsKept, a3, q5, c_min24 (n := n) (M := M) (show n5 + n6 < 2 ^ 31 by omega), Option.bind_some, c_within, m_isIn, gw_let]
  by_cases hv : v = -1
  · rw [if_neg (not_not_intro hv), if_neg (not_not_intro hv)]; exact sm_eq rfl rfl
  · rw [if_pos hv, if_pos hv]
    rcases in_m v (min (n5 + n6) 24) (by omega) with h | ⟨h, j, hj, rfl⟩
    · rw [h]; exact sm_eq rfl rfl
    · have e1 : nI (n5 + n6) - nI (min (n5 + n6) 24) + nI j = nI (n5 + n6 - min (n5 + n6) 24 + j) := by rw [nI_sub (by omega), nI_add]
      rw [h, if_pos (show ¬ (1 : Int32) = 0 by decide), if_neg (show ¬ (1 : Int32) = 0 by decide), e1, show (24 : Int32) = nI 24 from rfl, pk_rem (d := 24) (by omega) (by decide) (by decide), gi (k := (n5 + n6 - min (n5 + n6) 24 + j) % 24) (by omega) (by decide), gi (k := (n5 + n6 - min (n5 + n6) 24 + j) % 24) (by omega) (by decide), gi (k := (n5 + n6 - min (n5 + n6) 24 + j) % 24) (by omega) (by decide), gi (k := (n5 + n6 - min (n5 + n6) 24 + j) % 24) (by omega) (by decide), nI_clamp (show (n5 + n6 - min (n5 + n6) 24 + j) % 24 < 2 ^ 31 by omega)]
      rcases in_c w 3 (by decide) 3 rfl with h' | ⟨h', i, hi, rfl⟩
      · rw [h']
        have n0 : ¬ w = 0 := by
          intro c; subst c; exact absurd h' (by decide)
        have n1 : ¬ w = (0 : Int32) + 1 := by
          intro c; subst c; exact absurd h' (by decide)
        have n2 : ¬ w = ((0 : Int32) + 1) + 1 := by
          intro c; subst c; exact absurd h' (by decide)
        have n3 : ¬ w = (((0 : Int32) + 1) + 1) + 1 := by
          intro c; subst c; exact absurd h' (by decide)
        rw [if_neg n0, if_neg n1, if_neg n2, if_neg n3]
        exact sm_eq rfl rfl
      · rw [h', if_neg (show ¬ (1 : Int32) = 0 by decide), show (861 : Int32) = nI 861 from rfl, show (4 : Int32) = nI 4 from rfl, pk_mul, nI_add, nI_add, gi (k := 861 + 4 * j + i) (by omega) (by decide), nI_clamp (show 861 + 4 * j + i < 2 ^ 31 by omega), q6 j i (by omega) hj]
        match i, hi with
        | 0, _ => exact sm_eq rfl rfl
        | 1, _ => exact sm_eq rfl rfl
        | 2, _ => exact sm_eq rfl rfl
        | 3, _ => exact sm_eq rfl rfl
theorem G_t0 (hG : G b A m K N L3 L2 M s) (hh : h < 3) {p : Nat} (hp : p < 16) : s (m + 1) (299 + 162 * h + 2 * p) = M (A + 45 + 15 * h) p ∧ s (m + 1) (300 + 162 * h + 2 * p) = M (A + 46 + 15 * h) p ∧ (s (m + 1) (299 + 162 * h + 2 * p) = -1 ∨ ∃ q, q ≤ 15 ∧ s (m + 1) (299 + 162 * h + 2 * p) = nI q) ∧ ∃ r, r ≤ 7 ∧ s (m + 1) (300 + 162 * h + 2 * p) = nI r := by
  obtain ⟨d1, d2, d3, d4⟩ := gd_e hh (t := 0) (by decide) hp
  rw [show 299 + 162 * h + 32 * 0 + 2 * p = 299 + 162 * h + 2 * p by omega] at d1 d3
  rw [show 300 + 162 * h + 32 * 0 + 2 * p = 300 + 162 * h + 2 * p by omega] at d2 d4
  have r1 := G_rd hG d1
  have r2 := G_rd hG d2
  rw [show A + (45 + 15 * h + 4 * 0) = A + 45 + 15 * h by omega] at r1
  rw [show A + (46 + 15 * h + 4 * 0) = A + 46 + 15 * h by omega] at r2
  refine ⟨r1, r2, ?_, ?_⟩
  · rcases G_n1 hG d1 (n := 15) d3 with c | ⟨q, hq, -, c⟩
    · exact Or.inl c.2
    · exact Or.inr ⟨q, hq, c⟩
  · obtain ⟨k, hk, -, c⟩ := G_n hG d2 (n := 7) d4
    exact ⟨k, hk, c⟩
theorem m_wk {f t p w : Nat} (ht : t < 3) : F_X11_walk_23 n m (f + 1) (nI w) (nI p) (nI t) s = (F_X11_gives n m (nI t) (nI p) (nI w) s).bind (fun (r : Int32) => if ¬ r = 0 then (F_X11_toOf n m (nI t) (nI p) s).bind (fun (r7 : Int32) => F_X11_walk_23 n m f (nI w) r7 (nI (t + 1)) s) else some (((-2) : Int32) - nI t)) := by
  rw [F_X11_walk_23, if_neg (by rw [show (3 : Int32) = nI 3 from rfl, nI_leT (by omega) (by omega)]; omega)]
  simp only [gw_let, nI_1]
theorem rd_walk (hn : 1000 ≤ n) (g : G b (A + 1) m K N L3 L2 M s) (v u : Int32) : SAME (F_X10_walk n A v u M) (F_X11_walk n m v u s) := by
  obtain ⟨h, hh, h5, h15⟩ := G_hand g
  have hT : gq_T (s (m + 1)) := G_q g 0 (by decide)
  obtain ⟨f, rfl⟩ : ∃ f, n = f + 4 := ⟨n - 4, by omega⟩
  simp only [F_X10_walk, F_X11_walk, F_X10_isPage, F_X11_isPage, F_X10_isWay, F_X10_walk_26, c_within, m_isIn, Option.bind_some]
  rcases in_c v 15 (by decide) 15 rfl with hv | ⟨hv, p, hp, rfl⟩
  · rw [hv]; exact sm_eq rfl rfl
  · rw [hv, if_neg (show ¬ (1 : Int32) = 0 by decide), if_neg (show ¬ (1 : Int32) = 0 by decide)]
    rcases in_c u 2 (by decide) 2 rfl with hu | ⟨hu, w, hw, rfl⟩
    · rw [hu]; exact sm_eq rfl rfl
    · rw [hu, if_neg (show ¬ (1 : Int32) = 0 by decide), if_pos (show ¬ (1 : Int32) = 0 by decide), show F_X11_walk_23 (f + 4) m (f + 4) (nI w) (nI p) 0 s = F_X11_walk_23 (f + 4) m (f + 3 + 1) (nI w) (nI p) (nI 0) s from rfl, m_wk (by decide), m_gives01 (t := 0) hT hh h15 (by decide) (by omega) (by omega), m_to01 (t := 0) hh h15 (by decide) (by omega)]
      obtain ⟨t1, t2, t3, -⟩ := G_t0 g hh (show p < 16 by omega)
      simp only [F_X3_walkTables, c_inHand hh h5, Option.bind_some, gw_let]
      rw [c_tabGives (show p < 16 by omega) (show w < 32 by omega), show A + 1 + 37 + 15 * h + 7 + 2 = A + 1 + 46 + 15 * h by omega, ← t2, show 300 + 162 * h + 32 * 0 + 2 * p = 300 + 162 * h + 2 * p by omega, show 299 + 162 * h + 32 * 0 + 2 * p = 299 + 162 * h + 2 * p by omega, Option.bind_some, gi (k := p) (by omega) (by decide), nI_clamp (show p < 2 ^ 31 by omega), show A + 1 + 37 + 15 * h + 8 = A + 1 + 45 + 15 * h by omega, ← t1]
      cases hb0 : bt (s (m + 1) (300 + 162 * h + 2 * p)) w
      · exact sm_eq rfl rfl
      · rw [if_pos rfl, if_pos (show ¬ (1 : Int32) = 0 by decide), if_pos (show ¬ (1 : Int32) = 0 by decide)]
        rcases t3 with t3 | ⟨q, hq, t3⟩
        · have z := (hT p (by omega)).2.2 h 0 hh (by decide) (by rw [show 299 + 162 * h + 32 * 0 + 2 * p = 299 + 162 * h + 2 * p by omega]; exact t3)
          rw [show 300 + 162 * h + 32 * 0 + 2 * p = 300 + 162 * h + 2 * p by omega] at z
          rw [z, b_0] at hb0
          cases hb0
        · rw [t3, show f + 3 = f + 2 + 1 from rfl, m_wk (by decide), m_gives01 (t := 0 + 1) hT hh h15 (by decide) (by omega) (by omega), m_to01 (t := 0 + 1) hh h15 (by decide) (by omega), c_tabGives (show q < 16 by omega) (show w < 32 by omega)]
          obtain ⟨u1, u2, u3⟩ := G_t1 g hh (show q < 16 by omega)
          rw [show A + 1 + 37 + 15 * h + 11 + 2 = A + 1 + 50 + 15 * h by omega, ← u2, show 300 + 162 * h + 32 * (0 + 1) + 2 * q = 332 + 162 * h + 2 * q by omega, show 299 + 162 * h + 32 * (0 + 1) + 2 * q = 331 + 162 * h + 2 * q by omega, Option.bind_some, Option.bind_some, gi (k := q) (by omega) (by decide), nI_clamp (show q < 2 ^ 31 by omega), show A + 1 + 37 + 15 * h + 12 = A + 1 + 49 + 15 * h by omega, ← u1]
          cases hb1 : bt (s (m + 1) (332 + 162 * h + 2 * q)) w
          · exact sm_eq rfl rfl
          · rw [if_pos rfl, if_pos (show ¬ (1 : Int32) = 0 by decide), if_pos (show ¬ (1 : Int32) = 0 by decide)]
            rcases u3 with u3 | ⟨r, hr, u3⟩
            · have z := (hT q (by omega)).2.2 h 1 hh (by decide) (by rw [show 299 + 162 * h + 32 * 1 + 2 * q = 331 + 162 * h + 2 * q by omega]; exact u3)
              rw [show 300 + 162 * h + 32 * 1 + 2 * q = 332 + 162 * h + 2 * q by omega] at z
              rw [z, b_0] at hb1
              cases hb1
            · have w1 := G_rd g (gd_t2 r (by omega)).1
              rw [u3, show f + 2 = f + 1 + 1 from rfl, Option.bind_some, m_wk (by decide), show nI (0 + 1 + 1) = 2 from rfl, m_gives2 hT (show r < 16 by omega) (show w < 32 by omega), m_to2 (show r < 16 by omega), show A + 1 + 1 = A + 2 from rfl, show F_X4_rightsGiven (f + 1 + 1 + 1 + 1) (A + 2) (nI r) M = some (gr_2 (s (m + 1)) r) from c_rightsGiven g (by omega), Option.bind_some, Option.bind_some, c_has _ _ (show w < 32 by omega), Option.bind_some, gi (k := r) (by omega) (by decide), nI_clamp (show r < 2 ^ 31 by omega), w1]
              cases hb2 : bt (gr_2 (s (m + 1)) r) w
              · exact sm_eq rfl rfl
              · exact sm_eq rfl rfl
end RD3
