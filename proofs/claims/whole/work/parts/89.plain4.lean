/-! ===== a plain machine: a touch ===== -/
section PLAIN4
variable {e m n h c : Nat} {μ s : gw_M}
theorem sim_plTrap (hh : h < 3) (hP : PL e m h c μ s) {x p : Nat} (hx : x ≤ 15) : ∃ μ' s', gw_let (gw_up μ e 2 ((μ e 2) + (1 : Int32))) (fun (μ_13 : gw_M) => gw_let (gw_up μ_13 (e + 1) 4 (nI x)) (fun (μ_14 : gw_M) => (F_X1_trapAt n (e + 1) (nI p) μ_14).bind (fun (μ_16 : gw_M) => some μ_16))) = some μ' ∧ F_X11_plainTrap n m (nI (58 + 162 * (1 + h))) (nI x) (nI p) s = some s' ∧ PL e m h c μ' s' ∧ FP e m μ s μ' s' := by
  obtain ⟨-, -, -, -, -, -, -, -, h8, -⟩ := id hP
  have P1 := PL_cnt hP (μ e 2 + 1)
  have P2 := PL_page P1 hx
  have P3 := PL_back P2 (nI p)
  obtain ⟨-, -, b2, -⟩ := id P3
  obtain ⟨μ', s', q1, ⟨r, q2, q3⟩, q4, q5⟩ := sim_plGo (n := n) hh P3 (gw_up (gw_up (gw_up μ e 2 (μ e 2 + 1)) (e + 1) 4 (nI x)) (e + 1) 5 (nI p) (e + 1) 3)
  refine ⟨μ', s', ?_, ?_, q4, FP_trans (FP_trans (FP_trans (FP_up (by omega) (by omega)) (FP_up (by omega) (by omega))) (FP_up (by omega) (by omega))) q5⟩
  · simp only [gw_let, F_X1_trapAt]
    rw [show e + 1 + 2 = e + 3 from rfl, q1]
    rfl
  · simp only [gw_let, F_X11_plainTrap]
    rw [← h8, show (143 : Int32) = nI 143 from rfl, nI_add, gi (by omega) (by decide), gi (by omega) (by decide), nI_clamp (by omega), show 58 + 162 * (1 + h) + 143 = 363 + 162 * h by omega, ← b2, q2, Option.bind_some]
    rcases q3 with ⟨c1, c2⟩ | ⟨c1, c2⟩
    · rw [if_pos c1, c2]
    · rw [if_neg c1, c2]
theorem sim_plTouch (hh : h < 3) (hP : PL e m h c μ s) {x w p : Nat} (hx : x ≤ 15) (hw : w ≤ 2) (v : Int32) : ∃ μ' s', F_X6_touchFrom n e (nI p) (nI x) (nI w) v μ = some μ' ∧ F_X11_plainTouch n m (nI (58 + 162 * (1 + h))) (nI p) (nI x) (nI w) v s = some s' ∧ PL e m h c μ' s' ∧ FP e m μ s μ' s' := by
  obtain ⟨-, -, -, -, -, -, h6, h7, -, -⟩ := id hP
  obtain ⟨t1, t2, t3, t4⟩ := h6 x (by omega)
  obtain ⟨μ', s', q1, q2, q3, q4⟩ := sim_plTrap (n := n) (p := p) hh hP hx
  have trap : ∀ Y, Y = F_X11_plainTouch_30 n m (nI (58 + 162 * (1 + h))) (nI p) (nI x) s → Y = some s' := fun Y hY => by
    rw [hY, F_X11_plainTouch_30, q2]
    rfl
  simp only [F_X6_touchFrom, F_X11_plainTouch]
  rw [c_tabGives (show x < 16 by omega) (show w < 32 by omega), Option.bind_some, show e + 8 + 2 = e + 10 from rfl, t2, q1, show (2 : Int32) = nI 2 from rfl, pk_mul, nI_1, gi (k := 2 * x) (by omega) (by decide), gi (k := 2 * x) (by omega) (by decide), gi (k := 2 * x + 1) (by omega) (by decide), nI_clamp (show 2 * x < 2 ^ 31 by omega), nI_clamp (show 2 * x + 1 < 2 ^ 31 by omega), gi (k := x) (by omega) (by decide), nI_clamp (show x < 2 ^ 31 by omega), t1, m_has n _ (show w < 32 by omega), Option.bind_some]
  rcases t4 with t4 | ⟨q, hq, t4⟩
  · rw [t3 t4, b_0, t4]
    exact ⟨μ', s', rfl, trap _ rfl, q3, q4⟩
  · have hne : ¬ nI q = -1 := by rw [nI_m1 (by omega)]; exact id
    rw [t4, if_neg hne]
    cases hb : bt (s (m + 5) (2 * x + 1)) w
    · exact ⟨μ', s', rfl, trap _ rfl, q3, q4⟩
    · rw [if_pos rfl, if_pos (show ¬ (1 : Int32) = 0 by decide), if_pos (show ¬ (1 : Int32) = 0 by decide)]
      simp only [gw_let]
      rw [gi (k := q) (by omega) (by decide), gi (k := q) (by omega) (by decide), gi (k := q) (by omega) (by decide), gi (k := q) (by omega) (by decide), nI_clamp (show q < 2 ^ 31 by omega)]
      by_cases h1 : nI w = 1
      · rw [if_neg (not_not_intro h1), if_neg (not_not_intro h1)]
        exact ⟨_, _, rfl, rfl, PL_val hP v, FP_up (by omega) (by omega)⟩
      · rw [if_pos h1, if_pos h1, h7 q (by omega)]
        exact ⟨_, _, rfl, rfl, PL_hear hP _, FP_up (by omega) (by omega)⟩
end PLAIN4
