/-! ===== a plain machine: tables and places ===== -/
def FP (e m : Nat) (μ s μ' s' : gw_M) : Prop := (∀ x y, x < e ∨ e + 17 ≤ x → μ' x y = μ x y) ∧ ∀ x y, x ≠ m → x ≠ m + 4 → x ≠ m + 5 → s' x y = s x y
section PLAIN3
variable {e m n h c : Nat} {μ s μ' s' μ'' s'' : gw_M}
theorem FP_refl : FP e m μ s μ s := ⟨fun _ _ _ => rfl, fun _ _ _ _ _ => rfl⟩
theorem FP_trans (h1 : FP e m μ s μ' s') (h2 : FP e m μ' s' μ'' s'') : FP e m μ s μ'' s'' := ⟨fun x y hx => by rw [h2.1 x y hx, h1.1 x y hx], fun x y a b c => by rw [h2.2 x y a b c, h1.2 x y a b c]⟩
theorem FP_up {a i d j : Nat} {v w : Int32} (h1 : e ≤ a ∧ a < e + 17) (h2 : d = m ∨ d = m + 4 ∨ d = m + 5) : FP e m μ s (gw_up μ a i v) (gw_up s d j w) := ⟨fun x y hx => up_ne (by omega), fun x y h3 h4 h5 => up_ne (by omega)⟩
theorem FP_c {a i : Nat} {v : Int32} (h1 : e ≤ a ∧ a < e + 17) : FP e m μ s (gw_up μ a i v) s := ⟨fun x y hx => up_ne (by omega), fun x y h3 h4 h5 => rfl⟩
theorem FP_m {d j : Nat} {w : Int32} (h2 : d = m ∨ d = m + 4 ∨ d = m + 5) : FP e m μ s μ (gw_up s d j w) := ⟨fun x y hx => rfl, fun x y h3 h4 h5 => up_ne (by omega)⟩
theorem PL_tab (hP : PL e m h c μ s) {p y : Nat} (hy : y ≤ 15) (v w : Int32) : PL e m h c (gw_up (gw_up (gw_up (gw_up μ (e + 9) p (nI y)) (e + 10) p 7) (e + 11) p v) (e + 8) 3 w) (gw_up (gw_up s (m + 5) (2 * p) (nI y)) (m + 5) (2 * p + 1) 7) := by
  obtain ⟨h1, h2, h2', h3, h4, h5, h6, h7, h8, h9⟩ := id hP
  have hu : ∀ a i, a ≠ e + 8 → a ≠ e + 9 → a ≠ e + 10 → a ≠ e + 11 → gw_up (gw_up (gw_up (gw_up μ (e + 9) p (nI y)) (e + 10) p 7) (e + 11) p v) (e + 8) 3 w a i = μ a i := fun a i q1 q2 q3 q4 => by rw [up_ne (by omega), up_ne (by omega), up_ne (by omega), up_ne (by omega)]
  have hm : ∀ a i, a ≠ m + 5 → gw_up (gw_up s (m + 5) (2 * p) (nI y)) (m + 5) (2 * p + 1) 7 a i = s a i := fun a i q => by rw [up_ne (by omega), up_ne (by omega)]
  refine PL_mk hP (fun x y hx => hu x y (by omega) (by omega) (by omega) (by omega)) (fun y => hm _ _ (by omega)) ?_ ?_ ?_ (fun q hq => ?_) (fun q hq => ?_) ?_ ?_
  · rw [hu _ _ (by omega) (by omega) (by omega) (by omega), hm _ _ (by omega)]; exact h3
  · rw [hu _ _ (by omega) (by omega) (by omega) (by omega), hm _ _ (by omega)]; exact h4
  · rw [hu _ _ (by omega) (by omega) (by omega) (by omega), hm _ _ (by omega)]; exact h5
  · by_cases hqp : q = p
    · subst hqp
      have e1 : gw_up (gw_up (gw_up (gw_up μ (e + 9) q (nI y)) (e + 10) q 7) (e + 11) q v) (e + 8) 3 w (e + 9) q = nI y := by rw [up_ne (by omega), up_ne (by omega), up_ne (by omega), up_eq ⟨rfl, rfl⟩]
      have e2 : gw_up (gw_up (gw_up (gw_up μ (e + 9) q (nI y)) (e + 10) q 7) (e + 11) q v) (e + 8) 3 w (e + 10) q = 7 := by rw [up_ne (by omega), up_ne (by omega), up_eq ⟨rfl, rfl⟩]
      have e3 : gw_up (gw_up s (m + 5) (2 * q) (nI y)) (m + 5) (2 * q + 1) 7 (m + 5) (2 * q) = nI y := by rw [up_ne (by omega), up_eq ⟨rfl, rfl⟩]
      have e4 : gw_up (gw_up s (m + 5) (2 * q) (nI y)) (m + 5) (2 * q + 1) 7 (m + 5) (2 * q + 1) = 7 := by rw [up_eq ⟨rfl, rfl⟩]
      rw [e1, e2, e3, e4]
      exact ⟨rfl, rfl, fun z => by rw [nI_m1 (by omega)] at z; exact z.elim, Or.inr ⟨y, hy, rfl⟩⟩
    · have e1 : gw_up (gw_up (gw_up (gw_up μ (e + 9) p (nI y)) (e + 10) p 7) (e + 11) p v) (e + 8) 3 w (e + 9) q = μ (e + 9) q := by rw [up_ne (by omega), up_ne (by omega), up_ne (by omega), up_ne (by omega)]
      have e2 : gw_up (gw_up (gw_up (gw_up μ (e + 9) p (nI y)) (e + 10) p 7) (e + 11) p v) (e + 8) 3 w (e + 10) q = μ (e + 10) q := by rw [up_ne (by omega), up_ne (by omega), up_ne (by omega), up_ne (by omega)]
      have e3 : gw_up (gw_up s (m + 5) (2 * p) (nI y)) (m + 5) (2 * p + 1) 7 (m + 5) (2 * q) = s (m + 5) (2 * q) := by rw [up_ne (by omega), up_ne (by omega)]
      have e4 : gw_up (gw_up s (m + 5) (2 * p) (nI y)) (m + 5) (2 * p + 1) 7 (m + 5) (2 * q + 1) = s (m + 5) (2 * q + 1) := by rw [up_ne (by omega), up_ne (by omega)]
      rw [e1, e2, e3, e4]
      exact h6 q hq
  · rw [hu _ _ (by omega) (by omega) (by omega) (by omega), hm _ _ (by omega)]; exact h7 q hq
  · rw [hu _ _ (by omega) (by omega) (by omega) (by omega), hm _ _ (by omega)]; exact h8
  · rw [hu _ _ (by omega) (by omega) (by omega) (by omega), hm _ _ (by omega)]; exact h9
theorem sim_plPut (hP : PL e m h c μ s) {p y : Nat} (hp : p < 16) (hy : y ≤ 15) : ∃ μ' s', F_X8_put n (e + 8) (nI p) (nI y) 7 μ = some μ' ∧ F_X11_plainTell n m (nI p) (nI y) s = some s' ∧ PL e m h c μ' s' ∧ FP e m μ s μ' s' := by
  refine ⟨_, _, ?_, ?_, PL_tab (p := p) hP hy (gw_up (gw_up μ (e + 9) p (nI y)) (e + 10) p 7 (e + 8) 3) (gw_up (gw_up (gw_up μ (e + 9) p (nI y)) (e + 10) p 7) (e + 11) p (gw_up (gw_up μ (e + 9) p (nI y)) (e + 10) p 7 (e + 8) 3) (e + 8) 3 + 1), ?_⟩
  · simp only [F_X8_put, gw_let]
    rw [gi hp (by decide), gi hp (by decide), gi hp (by decide), nI_clamp (by omega)]
  · simp only [F_X11_plainTell, gw_let]
    rw [show (2 : Int32) = nI 2 from rfl, pk_mul, nI_1, gi (k := 2 * p) (by omega) (by decide), gi (k := 2 * p + 1) (by omega) (by decide), nI_clamp (show 2 * p < 2 ^ 31 by omega), nI_clamp (show 2 * p + 1 < 2 ^ 31 by omega)]
  · exact FP_trans (FP_trans (FP_trans (FP_up (by omega) (by omega)) (FP_up (by omega) (by omega))) (FP_c (by omega))) (FP_c (by omega))
theorem sim_plGo (hh : h < 3) (hP : PL e m h c μ s) (v : Int32) : ∃ μ' s', F_X7_goTo n (e + 3) v μ = some μ' ∧ (∃ r, F_X11_hasPlace n m (nI (58 + 162 * (1 + h))) v s = some r ∧ ((r = 0 ∧ s' = s) ∨ (¬ r = 0 ∧ s' = gw_up s m 7 v))) ∧ PL e m h c μ' s' ∧ FP e m μ s μ' s' := by
  obtain ⟨⟨a1, a2, a3⟩, -⟩ := id hP
  have hp : F_X11_hasPlace n m (nI (58 + 162 * (1 + h))) v s = some (isin v 0 (nI c - 1)) := by
    simp only [F_X11_hasPlace, m_isIn, Option.bind_some]
    rw [show (6 : Int32) = nI 6 from rfl, nI_add, gi (by omega) (by decide), nI_clamp (by omega), show 58 + 162 * (1 + h) + 6 = 64 + 162 * (1 + h) by omega, a3]
  rcases in_m v c (by omega) with h0 | ⟨h0, j, hj, rfl⟩
  · refine ⟨μ, s, ?_, ⟨_, hp, Or.inl ⟨h0, rfl⟩⟩, hP, FP_refl⟩
    rw [F_X7_goTo, a2]
    by_cases h1 : v < 0
    · rw [if_pos h1]
    · rw [if_neg h1]
      by_cases h2 : nI c ≤ v
      · rw [if_pos h2]
      · exfalso
        rw [Int32.lt_iff_toInt_lt, show (0 : Int32).toInt = 0 by decide] at h1
        rw [Int32.le_iff_toInt_le, nI_toInt (by omega)] at h2
        obtain ⟨l, hl⟩ : ∃ l, c = l + 1 := ⟨c - 1, by omega⟩
        have : isin v 0 (nI c - 1) = 1 := by
          rw [hl, nI_pred]
          refine isin_yes ?_ ?_
          · rw [show (0 : Int32).toInt = 0 by decide]; omega
          · rw [nI_toInt (by omega)]; omega
        rw [this] at h0
        exact absurd h0 (by decide)
  · refine ⟨gw_up μ (e + 3) 4 (nI j), gw_up s m 7 (nI j), ?_, ⟨_, hp, Or.inr ⟨by rw [h0]; decide, rfl⟩⟩, PL_place hP (Or.inl hj), FP_up (by omega) (by omega)⟩
    rw [F_X7_goTo, a2, if_neg (nI_pos (by omega)), if_neg (nI_ge hj (by omega))]
    rfl
end PLAIN3
