/-! ===== a plain machine: one turn ===== -/
section PLAIN5
variable {e m n h c : Nat} {μ s : gw_M}
theorem sim_plAct (hh : h < 3) (hP : PL e m h c μ s) {a x p : Nat} {y : Int32} (ha : a ≤ 9) (hx : x ≤ 15) (hy : ¬ a = 1 → ∃ z, z ≤ 15 ∧ y = nI z) : ∃ μ' s', (F_X10_isWay n (nI a) μ).bind (fun (r_8 : Int32) => (if r_8 = 0 then (F_X1_actAlone n (e + 1) (nI a) (nI x) y μ) else (F_X6_touchFrom n e (nI p) (nI x) (nI a) y μ))) = some μ' ∧ (if (3 : Int32) ≤ nI a then (if ¬ nI a = 6 then (if ¬ nI a = 8 then (if ¬ nI a = 9 then some s else (F_X11_hasPlace n m (nI (58 + 162 * (1 + h))) (s m 9) s).bind (fun (r_3 : Int32) => (if r_3 = 0 then some s else some (gw_up s m 7 (s m 9))))) else (if (s m 8) = (-1) then (if ¬ nI a = 9 then some s else (F_X11_hasPlace n m (nI (58 + 162 * (1 + h))) (s m 9) s).bind (fun (r_3 : Int32) => (if r_3 = 0 then some s else some (gw_up s m 7 (s m 9))))) else F_X11_plainTell n m (s m 8) (nI x) s)) else F_X11_plainTell n m (nI x) y s) else F_X11_plainTouch n m (nI (58 + 162 * (1 + h))) (nI p) (nI x) (nI a) y s) = some s' ∧ PL e m h c μ' s' ∧ FP e m μ s μ' s' := by
  obtain ⟨-, -, -, -, h4, h5, -⟩ := id hP
  have nop : ∃ μ' s', (some μ : Option gw_M) = some μ' ∧ (some s : Option gw_M) = some s' ∧ PL e m h c μ' s' ∧ FP e m μ s μ' s' := ⟨μ, s, rfl, rfl, hP, FP_refl⟩
  simp only [F_X10_isWay, c_within, Option.bind_some, F_X1_actAlone, F_X1_actAlone_51]
  match a, ha with
  | 0, _ =>
    simp only [show isin (nI 0) 0 2 = 1 by decide, show ((3 : Int32) ≤ nI 0) = False from eq_false (by decide), show (nI 0 = 6) = False from eq_false (by decide), show (nI 0 = 8) = False from eq_false (by decide), show (nI 0 = 9) = False from eq_false (by decide), show ((1 : Int32) = 0) = False from eq_false (by decide), eq_self, not_true_eq_false, not_false_eq_true, if_true, if_false, ite_self]
    exact sim_plTouch hh hP hx (by decide) y
  | 1, _ =>
    simp only [show isin (nI 1) 0 2 = 1 by decide, show ((3 : Int32) ≤ nI 1) = False from eq_false (by decide), show (nI 1 = 6) = False from eq_false (by decide), show (nI 1 = 8) = False from eq_false (by decide), show (nI 1 = 9) = False from eq_false (by decide), show ((1 : Int32) = 0) = False from eq_false (by decide), eq_self, not_true_eq_false, not_false_eq_true, if_true, if_false, ite_self]
    exact sim_plTouch hh hP hx (by decide) y
  | 2, _ =>
    simp only [show isin (nI 2) 0 2 = 1 by decide, show ((3 : Int32) ≤ nI 2) = False from eq_false (by decide), show (nI 2 = 6) = False from eq_false (by decide), show (nI 2 = 8) = False from eq_false (by decide), show (nI 2 = 9) = False from eq_false (by decide), show ((1 : Int32) = 0) = False from eq_false (by decide), eq_self, not_true_eq_false, not_false_eq_true, if_true, if_false, ite_self]
    exact sim_plTouch hh hP hx (by decide) y
  | 3, _ =>
    simp only [show isin (nI 3) 0 2 = 0 by decide, show ((3 : Int32) ≤ nI 3) = True from eq_true (by decide), show (nI 3 = 6) = False from eq_false (by decide), show (nI 3 = 8) = False from eq_false (by decide), show (nI 3 = 9) = False from eq_false (by decide), show ((1 : Int32) = 0) = False from eq_false (by decide), eq_self, not_true_eq_false, not_false_eq_true, if_true, if_false, ite_self]
    exact nop
  | 4, _ =>
    simp only [show isin (nI 4) 0 2 = 0 by decide, show ((3 : Int32) ≤ nI 4) = True from eq_true (by decide), show (nI 4 = 6) = False from eq_false (by decide), show (nI 4 = 8) = False from eq_false (by decide), show (nI 4 = 9) = False from eq_false (by decide), show ((1 : Int32) = 0) = False from eq_false (by decide), eq_self, not_true_eq_false, not_false_eq_true, if_true, if_false, ite_self]
    exact nop
  | 5, _ =>
    simp only [show isin (nI 5) 0 2 = 0 by decide, show ((3 : Int32) ≤ nI 5) = True from eq_true (by decide), show (nI 5 = 6) = False from eq_false (by decide), show (nI 5 = 8) = False from eq_false (by decide), show (nI 5 = 9) = False from eq_false (by decide), show ((1 : Int32) = 0) = False from eq_false (by decide), eq_self, not_true_eq_false, not_false_eq_true, if_true, if_false, ite_self]
    exact nop
  | 6, _ =>
    simp only [show isin (nI 6) 0 2 = 0 by decide, show ((3 : Int32) ≤ nI 6) = True from eq_true (by decide), show (nI 6 = 6) = True from eq_true (by decide), show (nI 6 = 8) = False from eq_false (by decide), show (nI 6 = 9) = False from eq_false (by decide), show ((1 : Int32) = 0) = False from eq_false (by decide), eq_self, not_true_eq_false, not_false_eq_true, if_true, if_false, ite_self]
    obtain ⟨z, hz, rfl⟩ := hy (by decide)
    obtain ⟨μ', s', q1, q2, q3, q4⟩ := sim_plPut (n := n) hP (show x < 16 by omega) hz
    refine ⟨μ', s', ?_, q2, q3, q4⟩
    show (F_X8_put n (e + 8) (nI x) (nI z) 7 μ).bind (fun (μ_9 : gw_M) => some μ_9) = some μ'
    rw [q1]
    rfl
  | 7, _ =>
    simp only [show isin (nI 7) 0 2 = 0 by decide, show ((3 : Int32) ≤ nI 7) = True from eq_true (by decide), show (nI 7 = 6) = False from eq_false (by decide), show (nI 7 = 8) = False from eq_false (by decide), show (nI 7 = 9) = False from eq_false (by decide), show ((1 : Int32) = 0) = False from eq_false (by decide), eq_self, not_true_eq_false, not_false_eq_true, if_true, if_false, ite_self]
    exact nop
  | 8, _ =>
    simp only [show isin (nI 8) 0 2 = 0 by decide, show ((3 : Int32) ≤ nI 8) = True from eq_true (by decide), show (nI 8 = 6) = False from eq_false (by decide), show (nI 8 = 8) = True from eq_true (by decide), show (nI 8 = 9) = False from eq_false (by decide), show ((1 : Int32) = 0) = False from eq_false (by decide), eq_self, not_true_eq_false, not_false_eq_true, if_true, if_false, ite_self]
    rcases h4 with ⟨h4, h4' | ⟨q, hq, h4'⟩⟩
    · rw [h4, h4']
      exact nop
    · have hne : ¬ nI q = -1 := by rw [nI_m1 (by omega)]; exact id
      rw [h4, h4']
      obtain ⟨μ', s', q1, q2, q3, q4⟩ := sim_plPut (n := n) hP (show q < 16 by omega) hx
      refine ⟨μ', s', ?_, ?_, q3, q4⟩
      · show (if nI q = -1 then _ else (F_X8_put n (e + 8) (nI q) (nI x) 7 μ).bind (fun (μ_5 : gw_M) => some μ_5)) = some μ'
        rw [if_neg hne, q1]
        rfl
      · show (if nI q = -1 then _ else F_X11_plainTell n m (nI q) (nI x) s) = some s'
        rw [if_neg hne, q2]
  | 9, _ =>
    simp only [show isin (nI 9) 0 2 = 0 by decide, show ((3 : Int32) ≤ nI 9) = True from eq_true (by decide), show (nI 9 = 6) = False from eq_false (by decide), show (nI 9 = 8) = False from eq_false (by decide), show (nI 9 = 9) = True from eq_true (by decide), show ((1 : Int32) = 0) = False from eq_false (by decide), eq_self, not_true_eq_false, not_false_eq_true, if_true, if_false, ite_self]
    obtain ⟨μ', s', q1, ⟨r, q2, q3⟩, q4, q5⟩ := sim_plGo (n := n) hh hP (s m 9)
    refine ⟨μ', s', ?_, ?_, q4, q5⟩
    · show (F_X7_goTo n (e + 3) (μ (e + 1) 5) μ).bind (fun (μ_3 : gw_M) => some μ_3) = some μ'
      rw [h5, q1]
      rfl
    · show (F_X11_hasPlace n m (nI (58 + 162 * (1 + h))) (s m 9) s).bind (fun (r_3 : Int32) => (if r_3 = 0 then some s else some (gw_up s m 7 (s m 9)))) = some s'
      rw [q2, Option.bind_some]
      rcases q3 with ⟨c1, c2⟩ | ⟨c1, c2⟩
      · rw [if_pos c1, c2]
      · rw [if_neg c1, c2]
end PLAIN5
