/-! ===== acts told, programs wiped, touches, entries, passing, running ===== -/
theorem isact_h {X Y : Option Int32} {n : Nat} {x y : Int32} {μ s : gw_M} (TA TB : Nat) (hA : TA < 2 ^ 31) (hB : TB < 2 ^ 31) (hX : X = (F_X10_within n x 0 (nI TA) μ).bind (fun (r_5 : Int32) => (if r_5 = 0 then some 0 else (F_X10_within n y 0 (nI TB) μ).bind (fun (r_14 : Int32) => (if r_14 = 0 then some 0 else some 1))))) (hY : Y = (F_X11_isIn n x 0 (nI TA) s).bind (fun (r_5 : Int32) => (if r_5 = 0 then some 0 else (F_X11_isIn n y 0 (nI TB) s).bind (fun (r_14 : Int32) => (if r_14 = 0 then some 0 else some 1))))) : (X = some 0 ∧ Y = some 0) ∨ (X = some 1 ∧ Y = some 1 ∧ ∃ x' y', x = nI x' ∧ y = nI y' ∧ x' ≤ TA ∧ y' ≤ TB) := by
  rw [hX, hY]
  simp only [c_within, m_isIn, Option.bind_some]
  rcases isin_0 x TA hA with ⟨h, -⟩ | ⟨h, x', hx, rfl⟩
  · rw [h]; exact Or.inl ⟨rfl, rfl⟩
  · rw [h, if_neg (show ¬ (1 : Int32) = 0 by decide)]
    rcases isin_0 y TB hB with ⟨h, -⟩ | ⟨h, y', hy, rfl⟩
    · rw [h]; exact Or.inl ⟨rfl, rfl⟩
    · rw [h]; exact Or.inr ⟨rfl, rfl, x', y', rfl, rfl, hx, hy⟩
theorem isact {v0 : Int32} (hv0 : v0 = 1 ∨ v0 = 2) (n : Nat) (v1 v2 v3 : Int32) (μ s : gw_M) : (F_X10_isAct n v0 v1 v2 v3 μ = some 0 ∧ F_X11_isAct n v0 v1 v2 v3 s = some 0) ∨ (F_X10_isAct n v0 v1 v2 v3 μ = some 1 ∧ F_X11_isAct n v0 v1 v2 v3 s = some 1 ∧ ∃ k x y, v1 = nI k ∧ v2 = nI x ∧ v3 = nI y ∧ k ≤ 11 ∧ x ≤ 15 ∧ y ≤ 9999 ∧ (k = 3 → x ≤ 7) ∧ (k = 11 → x ≤ 2) ∧ (k ≠ 1 → y ≤ 15) ∧ (v0 = 2 → k ≤ 9)) := by
  by_cases hin : 0 ≤ v1.toInt ∧ v1.toInt ≤ 11
  · obtain ⟨k, hk, rfl⟩ := nI_of_rg (v := v1) (n := 11) hin.1 (by omega)
    have hkc : k = 0 ∨ k = 1 ∨ k = 2 ∨ k = 3 ∨ k = 4 ∨ k = 5 ∨ k = 6 ∨ k = 7 ∨ k = 8 ∨ k = 9 ∨ k = 10 ∨ k = 11 := by omega
    rcases hv0 with rfl | rfl
    · rcases hkc with rfl | rfl | rfl | rfl | rfl | rfl | rfl | rfl | rfl | rfl | rfl | rfl
      · rcases isact_h (n := n) (x := v2) (y := v3) (μ := μ) (s := s) 15 0 (by decide) (by decide) (show F_X10_isAct n 1 (nI 0) v2 v3 μ = _ from rfl) (show F_X11_isAct n 1 (nI 0) v2 v3 s = _ from rfl) with h | ⟨h1, h2, x', y', rfl, rfl, h3, h4⟩
        · exact Or.inl h
        · exact Or.inr ⟨h1, h2, 0, x', y', rfl, rfl, rfl, by omega, by omega, by omega, by omega, by omega, by omega, by first | omega | exact fun c => absurd c (by decide)⟩
      · rcases isact_h (n := n) (x := v2) (y := v3) (μ := μ) (s := s) 15 9999 (by decide) (by decide) (show F_X10_isAct n 1 (nI 1) v2 v3 μ = _ from rfl) (show F_X11_isAct n 1 (nI 1) v2 v3 s = _ from rfl) with h | ⟨h1, h2, x', y', rfl, rfl, h3, h4⟩
        · exact Or.inl h
        · exact Or.inr ⟨h1, h2, 1, x', y', rfl, rfl, rfl, by omega, by omega, by omega, by omega, by omega, by omega, by first | omega | exact fun c => absurd c (by decide)⟩
      · rcases isact_h (n := n) (x := v2) (y := v3) (μ := μ) (s := s) 15 0 (by decide) (by decide) (show F_X10_isAct n 1 (nI 2) v2 v3 μ = _ from rfl) (show F_X11_isAct n 1 (nI 2) v2 v3 s = _ from rfl) with h | ⟨h1, h2, x', y', rfl, rfl, h3, h4⟩
        · exact Or.inl h
        · exact Or.inr ⟨h1, h2, 2, x', y', rfl, rfl, rfl, by omega, by omega, by omega, by omega, by omega, by omega, by first | omega | exact fun c => absurd c (by decide)⟩
      · rcases isact_h (n := n) (x := v2) (y := v3) (μ := μ) (s := s) 7 0 (by decide) (by decide) (show F_X10_isAct n 1 (nI 3) v2 v3 μ = _ from rfl) (show F_X11_isAct n 1 (nI 3) v2 v3 s = _ from rfl) with h | ⟨h1, h2, x', y', rfl, rfl, h3, h4⟩
        · exact Or.inl h
        · exact Or.inr ⟨h1, h2, 3, x', y', rfl, rfl, rfl, by omega, by omega, by omega, by omega, by omega, by omega, by first | omega | exact fun c => absurd c (by decide)⟩
      · rcases isact_h (n := n) (x := v2) (y := v3) (μ := μ) (s := s) 0 0 (by decide) (by decide) (show F_X10_isAct n 1 (nI 4) v2 v3 μ = _ from rfl) (show F_X11_isAct n 1 (nI 4) v2 v3 s = _ from rfl) with h | ⟨h1, h2, x', y', rfl, rfl, h3, h4⟩
        · exact Or.inl h
        · exact Or.inr ⟨h1, h2, 4, x', y', rfl, rfl, rfl, by omega, by omega, by omega, by omega, by omega, by omega, by first | omega | exact fun c => absurd c (by decide)⟩
      · rcases isact_h (n := n) (x := v2) (y := v3) (μ := μ) (s := s) 0 0 (by decide) (by decide) (show F_X10_isAct n 1 (nI 5) v2 v3 μ = _ from rfl) (show F_X11_isAct n 1 (nI 5) v2 v3 s = _ from rfl) with h | ⟨h1, h2, x', y', rfl, rfl, h3, h4⟩
        · exact Or.inl h
        · exact Or.inr ⟨h1, h2, 5, x', y', rfl, rfl, rfl, by omega, by omega, by omega, by omega, by omega, by omega, by first | omega | exact fun c => absurd c (by decide)⟩
      · rcases isact_h (n := n) (x := v2) (y := v3) (μ := μ) (s := s) 0 0 (by decide) (by decide) (show F_X10_isAct n 1 (nI 6) v2 v3 μ = _ from rfl) (show F_X11_isAct n 1 (nI 6) v2 v3 s = _ from rfl) with h | ⟨h1, h2, x', y', rfl, rfl, h3, h4⟩
        · exact Or.inl h
        · exact Or.inr ⟨h1, h2, 6, x', y', rfl, rfl, rfl, by omega, by omega, by omega, by omega, by omega, by omega, by first | omega | exact fun c => absurd c (by decide)⟩
      · rcases isact_h (n := n) (x := v2) (y := v3) (μ := μ) (s := s) 15 15 (by decide) (by decide) (show F_X10_isAct n 1 (nI 7) v2 v3 μ = _ from rfl) (show F_X11_isAct n 1 (nI 7) v2 v3 s = _ from rfl) with h | ⟨h1, h2, x', y', rfl, rfl, h3, h4⟩
        · exact Or.inl h
        · exact Or.inr ⟨h1, h2, 7, x', y', rfl, rfl, rfl, by omega, by omega, by omega, by omega, by omega, by omega, by first | omega | exact fun c => absurd c (by decide)⟩
      · rcases isact_h (n := n) (x := v2) (y := v3) (μ := μ) (s := s) 15 0 (by decide) (by decide) (show F_X10_isAct n 1 (nI 8) v2 v3 μ = _ from rfl) (show F_X11_isAct n 1 (nI 8) v2 v3 s = _ from rfl) with h | ⟨h1, h2, x', y', rfl, rfl, h3, h4⟩
        · exact Or.inl h
        · exact Or.inr ⟨h1, h2, 8, x', y', rfl, rfl, rfl, by omega, by omega, by omega, by omega, by omega, by omega, by first | omega | exact fun c => absurd c (by decide)⟩
      · rcases isact_h (n := n) (x := v2) (y := v3) (μ := μ) (s := s) 15 0 (by decide) (by decide) (show F_X10_isAct n 1 (nI 9) v2 v3 μ = _ from rfl) (show F_X11_isAct n 1 (nI 9) v2 v3 s = _ from rfl) with h | ⟨h1, h2, x', y', rfl, rfl, h3, h4⟩
        · exact Or.inl h
        · exact Or.inr ⟨h1, h2, 9, x', y', rfl, rfl, rfl, by omega, by omega, by omega, by omega, by omega, by omega, by first | omega | exact fun c => absurd c (by decide)⟩
      · rcases isact_h (n := n) (x := v2) (y := v3) (μ := μ) (s := s) 0 0 (by decide) (by decide) (show F_X10_isAct n 1 (nI 10) v2 v3 μ = _ from rfl) (show F_X11_isAct n 1 (nI 10) v2 v3 s = _ from rfl) with h | ⟨h1, h2, x', y', rfl, rfl, h3, h4⟩
        · exact Or.inl h
        · exact Or.inr ⟨h1, h2, 10, x', y', rfl, rfl, rfl, by omega, by omega, by omega, by omega, by omega, by omega, by first | omega | exact fun c => absurd c (by decide)⟩
      · rcases isact_h (n := n) (x := v2) (y := v3) (μ := μ) (s := s) 2 0 (by decide) (by decide) (show F_X10_isAct n 1 (nI 11) v2 v3 μ = _ from rfl) (show F_X11_isAct n 1 (nI 11) v2 v3 s = _ from rfl) with h | ⟨h1, h2, x', y', rfl, rfl, h3, h4⟩
        · exact Or.inl h
        · exact Or.inr ⟨h1, h2, 11, x', y', rfl, rfl, rfl, by omega, by omega, by omega, by omega, by omega, by omega, by first | omega | exact fun c => absurd c (by decide)⟩
    · rcases hkc with rfl | rfl | rfl | rfl | rfl | rfl | rfl | rfl | rfl | rfl | rfl | rfl
      · rcases isact_h (n := n) (x := v2) (y := v3) (μ := μ) (s := s) 15 0 (by decide) (by decide) (show F_X10_isAct n 2 (nI 0) v2 v3 μ = _ from rfl) (show F_X11_isAct n 2 (nI 0) v2 v3 s = _ from rfl) with h | ⟨h1, h2, x', y', rfl, rfl, h3, h4⟩
        · exact Or.inl h
        · exact Or.inr ⟨h1, h2, 0, x', y', rfl, rfl, rfl, by omega, by omega, by omega, by omega, by omega, by omega, by first | omega | exact fun c => absurd c (by decide)⟩
      · rcases isact_h (n := n) (x := v2) (y := v3) (μ := μ) (s := s) 15 9999 (by decide) (by decide) (show F_X10_isAct n 2 (nI 1) v2 v3 μ = _ from rfl) (show F_X11_isAct n 2 (nI 1) v2 v3 s = _ from rfl) with h | ⟨h1, h2, x', y', rfl, rfl, h3, h4⟩
        · exact Or.inl h
        · exact Or.inr ⟨h1, h2, 1, x', y', rfl, rfl, rfl, by omega, by omega, by omega, by omega, by omega, by omega, by first | omega | exact fun c => absurd c (by decide)⟩
      · rcases isact_h (n := n) (x := v2) (y := v3) (μ := μ) (s := s) 15 0 (by decide) (by decide) (show F_X10_isAct n 2 (nI 2) v2 v3 μ = _ from rfl) (show F_X11_isAct n 2 (nI 2) v2 v3 s = _ from rfl) with h | ⟨h1, h2, x', y', rfl, rfl, h3, h4⟩
        · exact Or.inl h
        · exact Or.inr ⟨h1, h2, 2, x', y', rfl, rfl, rfl, by omega, by omega, by omega, by omega, by omega, by omega, by first | omega | exact fun c => absurd c (by decide)⟩
      · rcases isact_h (n := n) (x := v2) (y := v3) (μ := μ) (s := s) 7 0 (by decide) (by decide) (show F_X10_isAct n 2 (nI 3) v2 v3 μ = _ from rfl) (show F_X11_isAct n 2 (nI 3) v2 v3 s = _ from rfl) with h | ⟨h1, h2, x', y', rfl, rfl, h3, h4⟩
        · exact Or.inl h
        · exact Or.inr ⟨h1, h2, 3, x', y', rfl, rfl, rfl, by omega, by omega, by omega, by omega, by omega, by omega, by first | omega | exact fun c => absurd c (by decide)⟩
      · rcases isact_h (n := n) (x := v2) (y := v3) (μ := μ) (s := s) 0 0 (by decide) (by decide) (show F_X10_isAct n 2 (nI 4) v2 v3 μ = _ from rfl) (show F_X11_isAct n 2 (nI 4) v2 v3 s = _ from rfl) with h | ⟨h1, h2, x', y', rfl, rfl, h3, h4⟩
        · exact Or.inl h
        · exact Or.inr ⟨h1, h2, 4, x', y', rfl, rfl, rfl, by omega, by omega, by omega, by omega, by omega, by omega, by first | omega | exact fun c => absurd c (by decide)⟩
      · rcases isact_h (n := n) (x := v2) (y := v3) (μ := μ) (s := s) 0 0 (by decide) (by decide) (show F_X10_isAct n 2 (nI 5) v2 v3 μ = _ from rfl) (show F_X11_isAct n 2 (nI 5) v2 v3 s = _ from rfl) with h | ⟨h1, h2, x', y', rfl, rfl, h3, h4⟩
        · exact Or.inl h
        · exact Or.inr ⟨h1, h2, 5, x', y', rfl, rfl, rfl, by omega, by omega, by omega, by omega, by omega, by omega, by first | omega | exact fun c => absurd c (by decide)⟩
      · rcases isact_h (n := n) (x := v2) (y := v3) (μ := μ) (s := s) 15 15 (by decide) (by decide) (show F_X10_isAct n 2 (nI 6) v2 v3 μ = _ from rfl) (show F_X11_isAct n 2 (nI 6) v2 v3 s = _ from rfl) with h | ⟨h1, h2, x', y', rfl, rfl, h3, h4⟩
        · exact Or.inl h
        · exact Or.inr ⟨h1, h2, 6, x', y', rfl, rfl, rfl, by omega, by omega, by omega, by omega, by omega, by omega, by first | omega | exact fun c => absurd c (by decide)⟩
      · rcases isact_h (n := n) (x := v2) (y := v3) (μ := μ) (s := s) 0 0 (by decide) (by decide) (show F_X10_isAct n 2 (nI 7) v2 v3 μ = _ from rfl) (show F_X11_isAct n 2 (nI 7) v2 v3 s = _ from rfl) with h | ⟨h1, h2, x', y', rfl, rfl, h3, h4⟩
        · exact Or.inl h
        · exact Or.inr ⟨h1, h2, 7, x', y', rfl, rfl, rfl, by omega, by omega, by omega, by omega, by omega, by omega, by first | omega | exact fun c => absurd c (by decide)⟩
      · rcases isact_h (n := n) (x := v2) (y := v3) (μ := μ) (s := s) 15 0 (by decide) (by decide) (show F_X10_isAct n 2 (nI 8) v2 v3 μ = _ from rfl) (show F_X11_isAct n 2 (nI 8) v2 v3 s = _ from rfl) with h | ⟨h1, h2, x', y', rfl, rfl, h3, h4⟩
        · exact Or.inl h
        · exact Or.inr ⟨h1, h2, 8, x', y', rfl, rfl, rfl, by omega, by omega, by omega, by omega, by omega, by omega, by first | omega | exact fun c => absurd c (by decide)⟩
      · rcases isact_h (n := n) (x := v2) (y := v3) (μ := μ) (s := s) 0 0 (by decide) (by decide) (show F_X10_isAct n 2 (nI 9) v2 v3 μ = _ from rfl) (show F_X11_isAct n 2 (nI 9) v2 v3 s = _ from rfl) with h | ⟨h1, h2, x', y', rfl, rfl, h3, h4⟩
        · exact Or.inl h
        · exact Or.inr ⟨h1, h2, 9, x', y', rfl, rfl, rfl, by omega, by omega, by omega, by omega, by omega, by omega, by first | omega | exact fun c => absurd c (by decide)⟩
      · refine Or.inl ⟨?_, rfl⟩
        have : F_X10_isAct n 2 (nI 10) v2 v3 μ = (F_X10_within n v2 0 (-1) μ).bind (fun (r_5 : Int32) => (if r_5 = 0 then some 0 else (F_X10_within n v3 0 0 μ).bind (fun (r_14 : Int32) => (if r_14 = 0 then some 0 else some 1)))) := rfl
        rw [this, c_within, Option.bind_some, isin_no (by
          have e1 : (0 : Int32).toInt = 0 := by decide
          have e2 : (-1 : Int32).toInt = -1 := by decide
          omega), if_pos rfl]
      · refine Or.inl ⟨?_, rfl⟩
        have : F_X10_isAct n 2 (nI 11) v2 v3 μ = (F_X10_within n v2 0 (-1) μ).bind (fun (r_5 : Int32) => (if r_5 = 0 then some 0 else (F_X10_within n v3 0 0 μ).bind (fun (r_14 : Int32) => (if r_14 = 0 then some 0 else some 1)))) := rfl
        rw [this, c_within, Option.bind_some, isin_no (by
          have e1 : (0 : Int32).toInt = 0 := by decide
          have e2 : (-1 : Int32).toInt = -1 := by decide
          omega), if_pos rfl]
  · have hk : ∀ k : Nat, k ≤ 11 → ¬ v1 = nI k := by
      rintro k hk rfl
      rw [nI_toInt (by omega)] at hin
      omega
    have e1 : (0 : Int32).toInt = 0 := by decide
    have e2 : (-1 : Int32).toInt = -1 := by decide
    have e3 : (11 : Int32).toInt = 11 := by decide
    have e4 : (9 : Int32).toInt = 9 := by decide
    have hA : F_X10_mostOfA n v0 v1 μ = some (-1) := by
      unfold F_X10_mostOfA
      rw [if_neg (show ¬ v1 = (0 : Int32) from hk 0 (by decide)), if_neg (show ¬ v1 = ((0 : Int32) + 1) from hk 1 (by decide)), if_neg (show ¬ v1 = (((0 : Int32) + 1) + 1) from hk 2 (by decide)), if_neg (show ¬ v1 = ((((0 : Int32) + 1) + 1) + 1) from hk 3 (by decide)), if_neg (show ¬ v1 = (((((0 : Int32) + 1) + 1) + 1) + 1) from hk 4 (by decide)), if_neg (show ¬ v1 = ((((((0 : Int32) + 1) + 1) + 1) + 1) + 1) from hk 5 (by decide)), if_neg (show ¬ v1 = (((((((0 : Int32) + 1) + 1) + 1) + 1) + 1) + 1) from hk 6 (by decide)), if_neg (show ¬ v1 = ((((((((0 : Int32) + 1) + 1) + 1) + 1) + 1) + 1) + 1) from hk 7 (by decide)), if_neg (show ¬ v1 = (((((((((0 : Int32) + 1) + 1) + 1) + 1) + 1) + 1) + 1) + 1) from hk 8 (by decide)), if_neg (show ¬ v1 = ((((((((((0 : Int32) + 1) + 1) + 1) + 1) + 1) + 1) + 1) + 1) + 1) from hk 9 (by decide)), if_neg (show ¬ v1 = (((((((((((0 : Int32) + 1) + 1) + 1) + 1) + 1) + 1) + 1) + 1) + 1) + 1) from hk 10 (by decide)), if_neg (show ¬ v1 = ((((((((((((0 : Int32) + 1) + 1) + 1) + 1) + 1) + 1) + 1) + 1) + 1) + 1) + 1) from hk 11 (by decide))]
    have hN : F_X11_needs n v0 v1 s = some (-1) := by
      unfold F_X11_needs F_X11_needs_14
      simp only [m_isIn, Option.bind_some]
      rw [isin_no (v := v1) (l := 0) (t := 9) (by omega), isin_no (v := v1) (l := 0) (t := 11) (by omega)]
      simp
    refine Or.inl ⟨?_, ?_⟩
    · rw [F_X10_isAct, hA, Option.bind_some, c_within, Option.bind_some, isin_no (by omega), if_pos rfl]
      rfl
    · rw [F_X11_isAct, hN, Option.bind_some]
      simp only [F_X11_isAct_29, F_X11_isAct_44, F_X11_isAct_95, if_true, ite_self]
section MUT3
variable {b A m n : Nat} {M s pu s1 : gw_M}
theorem hs_scale (hn : 1000 ≤ n) (hb : b + 8100 < 2 ^ 28) (g1 : Gs b (A + 1) m pu s1 pu s1) (hk : F_X11_keep n m s = some s1) (v w x : Int32) : HSP b A m M s pu s1 (F_X10_scale n A v w x M pu) (F_X11_scale n m v w x s) := by
  obtain ⟨K3, K2, g⟩ := g1
  have yes : (v = 1 ∨ v = 2) → HSP b A m M s pu s1 ((F_X10_within n w 1 64 M).bind (fun (r_6 : Int32) => (if r_6 = 0 then some (0, M, false) else (F_X10_within n x (-9999) 9999 M).bind (fun (r_11 : Int32) => (if ¬ r_11 = 0 then (((F_X3_guest n (A + 1) v pu).bind (fun (r_18 : Nat) => gw_let (gw_up pu r_18 5 w) (fun (μ_22 : gw_M) => (F_X3_guest n (A + 1) v μ_22).bind (fun (r_23 : Nat) => gw_let (gw_up μ_22 r_23 6 x) (fun (μ_27 : gw_M) => (F_X3_dealOut n (A + 1) μ_27).bind (fun (μ_29 : gw_M) => some ((1 : Int32), μ_29))))))).map (fun (z : Int32 × gw_M) => (z.1, z.2, true))) else some (0, M, false)))))) ((F_X11_isIn n w 1 64 s).bind (fun (r_6 : Int32) => (if r_6 = 0 then some (0, s) else (F_X11_isIn n x (-9999) 9999 s).bind (fun (r_11 : Int32) => (if ¬ r_11 = 0 then (F_X11_keep n m s).bind (fun (μ_17 : gw_M) => (F_X11_guestAt n m v μ_17).bind (fun (r_20 : Int32) => (if 0 ≤ (r_20 + (3 : Int32)) ∧ (r_20 + (3 : Int32)).toNatClampNeg < 20813 then gw_let (gw_up μ_17 (m + 1) (r_20 + (3 : Int32)).toNatClampNeg w) (fun (μ_25 : gw_M) => (F_X11_guestAt n m v μ_25).bind (fun (r_26 : Int32) => (if 0 ≤ (r_26 + (4 : Int32)) ∧ (r_26 + (4 : Int32)).toNatClampNeg < 20813 then gw_let (gw_up μ_25 (m + 1) (r_26 + (4 : Int32)).toNatClampNeg x) (fun (μ_31 : gw_M) => (F_X11_dealOut n m μ_31).bind (fun (μ_33 : gw_M) => some (1, μ_33))) else none))) else none))) else some (0, s)))))) := by
    intro hv
    rw [c_within, m_isIn, Option.bind_some, Option.bind_some]
    rcases isin_c w 1 64 with h | ⟨h, a1, a2⟩
    · rw [h]; exact hs_no 0
    · rw [h, if_neg (show ¬ (1 : Int32) = 0 by decide), if_neg (show ¬ (1 : Int32) = 0 by decide), c_within, m_isIn, Option.bind_some, Option.bind_some]
      rcases isin_c x (-9999) 9999 with h | ⟨h, c1, c2⟩
      · rw [h]; exact hs_no 0
      · obtain ⟨z, hz⟩ := gg_ex g hv
        have hz4 := gg_lt hz
        have f1 : (1 : Int32).toInt = 1 := by decide
        have f2 : (64 : Int32).toInt = 64 := by decide
        have f3 : (-9999 : Int32).toInt = -9999 := by decide
        have f4 : (9999 : Int32).toInt = 9999 := by decide
        have i3 : nI (58 + 162 * z) + (3 : Int32) = nI (61 + 162 * z) := by rw [show (3 : Int32) = nI 3 from rfl, nI_add]; congr 1; omega
        have i4 : nI (58 + 162 * z) + (4 : Int32) = nI (62 + 162 * z) := by rw [show (4 : Int32) = nI 4 from rfl, nI_add]; congr 1; omega
        obtain ⟨-, -, -, r4, r5, -⟩ := gd_g z hz4
        obtain ⟨-, q4, q5, -⟩ := gd_gq z hz4
        have G1 := G_fr g r4 (v := w) (gq_rng q4 (by omega) (by omega)) (fun c hc => (g_na z hz4 c hc).2.2.1)
        have G2 := G_fr G1 r5 (v := x) (gq_rng q5 (by omega) (by omega)) (fun c hc => (g_na z hz4 c hc).2.2.2)
        have hz1 : gg_is (gw_up s1 (m + 1) (61 + 162 * z) w) m v z := gg_same hz (by rw [up_ne (by omega)])
        rw [h, if_pos (show ¬ (1 : Int32) = 0 by decide), if_pos (show ¬ (1 : Int32) = 0 by decide), hk, Option.bind_some, (m_guestAt (n := n) hz).1, Option.bind_some, c_guest g hz, Option.bind_some, i3, nI_clamp (by omega), if_pos (show 0 ≤ nI (61 + 162 * z) ∧ 61 + 162 * z < 20813 from ⟨nI_pos' (by omega), by omega⟩)]
        simp only [gw_let]
        rw [(m_guestAt (n := n) hz1).1, Option.bind_some, c_guest G1 hz1, Option.bind_some, i4, nI_clamp (by omega), if_pos (show 0 ≤ nI (62 + 162 * z) ∧ 62 + 162 * z < 20813 from ⟨nI_pos' (by omega), by omega⟩)]
        exact fin_do hn ⟨_, _, G2⟩ (by omega) hb 1
  simp only [F_X10_scale, F_X11_scale]
  rcases gst n v M s with ⟨h1, h2, h3⟩ | ⟨h1, h2, h3⟩ | ⟨h1, h1', h2, h3⟩
  · rw [h2, h3, Option.bind_some, Option.bind_some, if_neg (show ¬ (1 : Int32) = 0 by decide), if_neg (show ¬ (1 : Int32) = 0 by decide)]
    exact yes (Or.inl h1)
  · rw [h2, h3, Option.bind_some, Option.bind_some, if_neg (show ¬ (1 : Int32) = 0 by decide), if_neg (show ¬ (1 : Int32) = 0 by decide)]
    exact yes (Or.inr h1)
  · rw [h2, h3, Option.bind_some, Option.bind_some, if_pos rfl, if_pos rfl]
    exact hs_no 0
theorem m_wipe32 {g : Nat} (hg : g < 4) (v : Int32) : ∀ (d k f : Nat) (s : gw_M), k + d = 79 → d < f → 5 ≤ k → ∃ s2, F_X11_wipe_32 n m f (nI (58 + 162 * g)) v (nI k) s = (F_X11_dealOut n m s2).bind (fun (μ_3 : gw_M) => some (v, μ_3)) ∧ ∀ a j, s2 a j = if a = m + 1 ∧ 58 + 162 * g + k ≤ j ∧ j < 137 + 162 * g then 0 else s a j := by
  intro d
  induction d with
  | zero =>
    intro k f s hk hf h5
    obtain ⟨f, rfl⟩ : ∃ z, f = z + 1 := ⟨f - 1, by omega⟩
    have : k = 79 := by omega
    subst this
    rw [F_X11_wipe_32, if_pos (by decide)]
    exact ⟨s, rfl, fun a j => by rw [if_neg (by omega)]⟩
  | succ d ih =>
    intro k f s hk hf h5
    obtain ⟨f, rfl⟩ : ∃ z, f = z + 1 := ⟨f - 1, by omega⟩
    rw [F_X11_wipe_32, if_neg (by rw [show (79 : Int32) = nI 79 from rfl]; exact nI_ge (by omega) (by omega)), nI_add, nI_clamp (by omega), if_pos ⟨nI_pos' (by omega), by omega⟩]
    simp only [gw_let, nI_1]
    obtain ⟨s2, e1, e2⟩ := ih (k + 1) f (gw_up s (m + 1) (58 + 162 * g + k) 0) (by omega) (by omega) (by omega)
    refine ⟨s2, e1, fun a j => ?_⟩
    rw [e2 a j]
    by_cases c : a = m + 1 ∧ 58 + 162 * g + (k + 1) ≤ j ∧ j < 137 + 162 * g
    · rw [if_pos c, if_pos (by omega)]
    · rw [if_neg c, up_at]
      by_cases c2 : a = m + 1 ∧ j = 58 + 162 * g + k
      · rw [if_pos c2, if_pos (by omega)]
      · rw [if_neg c2, if_neg (by omega)]
theorem hs_wipe (hn : 1000 ≤ n) (hb : b + 8100 < 2 ^ 28) (g1 : Gs b (A + 1) m pu s1 pu s1) (hk : F_X11_keep n m s = some s1) (v : Int32) : HSP b A m M s pu s1 (F_X10_wipe n A v M pu) (F_X11_wipe n m v s) := by
  obtain ⟨K3, K2, g⟩ := g1
  have yes : (v = 1 ∨ v = 2) → HSP b A m M s pu s1 (((F_X3_guest n (A + 1) v pu).bind (fun (r_8 : Nat) => gw_let ((pu (r_8 + 1) 3)) (fun (w_12 : Int32) => gw_let (gw_up pu (r_8 + 1) 3 0) (fun (μ_13 : gw_M) => gw_let (gw_up μ_13 (r_8 + 1) 4 0) (fun (μ_14 : gw_M) => (F_X3_dealOut n (A + 1) μ_14).bind (fun (μ_16 : gw_M) => some (w_12, μ_16))))))).map (fun (z : Int32 × gw_M) => (z.1, z.2, true))) ((F_X11_keep n m s).bind (fun (μ_7 : gw_M) => (F_X11_guestAt n m v μ_7).bind (fun (r_10 : Int32) => (if 0 ≤ (r_10 + (6 : Int32)) ∧ (r_10 + (6 : Int32)).toNatClampNeg < 20813 then gw_let ((μ_7 (m + 1) (r_10 + (6 : Int32)).toNatClampNeg)) (fun (w_15 : Int32) => F_X11_wipe_32 n m n r_10 w_15 5 μ_7) else none)))) := by
    intro hv
    obtain ⟨z, hz⟩ := gg_ex g hv
    have hz4 := gg_lt hz
    have hgr := gg_rg z hz4
    have i6 : nI (58 + 162 * z) + (6 : Int32) = nI (64 + 162 * z) := by rw [show (6 : Int32) = nI 6 from rfl, nI_add]; congr 1; omega
    have hM := G_rd g (gd_g z hz4).2.2.2.2.2.2
    obtain ⟨s2, e1, e2⟩ := m_wipe32 (n := n) (m := m) hz4 (s1 (m + 1) (64 + 162 * z)) 74 5 n s1 rfl (by omega) (by decide)
    have e1' : F_X11_wipe_32 n m n (nI (58 + 162 * z)) (s1 (m + 1) (64 + 162 * z)) 5 s1 = _ := e1
    rw [hk, Option.bind_some, (m_guestAt (n := n) hz).1, Option.bind_some, c_guest g hz, Option.bind_some, i6, nI_clamp (by omega), if_pos (show 0 ≤ nI (64 + 162 * z) ∧ 64 + 162 * z < 20813 from ⟨nI_pos' (by omega), by omega⟩)]
    simp only [gw_let]
    rw [e1', hM]
    have G1 := core_prog g hz4 (p := 0) (Mn := 0) (by decide) (by decide) (Or.inl rfl) (μ' := gw_up (gw_up pu (A + 1 + gg_c z + 1) 3 0) (A + 1 + gg_c z + 1) 4 0) (s' := s2) (by rw [up_eq ⟨by omega, rfl⟩]; rfl) (by rw [up_ne (by omega), up_eq ⟨by omega, rfl⟩]; rfl) (fun a j h1 h2 => by rw [up_ne (by omega), up_ne (by omega)]) (by rw [e2, if_pos ⟨rfl, by omega, by omega⟩]; rfl) (by rw [e2, if_pos ⟨rfl, by omega, by omega⟩]; rfl) (fun a j h1 => by rw [e2, if_neg (by omega)]) (fun k hk0 => absurd hk0 (by omega))
    exact fin_do hn ⟨_, _, G1⟩ (by omega) hb _
  simp only [F_X10_wipe, F_X11_wipe]
  rcases gst n v M s with ⟨h1, h2, h3⟩ | ⟨h1, h2, h3⟩ | ⟨h1, h1', h2, h3⟩
  · rw [h2, h3, Option.bind_some, Option.bind_some, if_pos (show ¬ (1 : Int32) = 0 by decide), if_pos (show ¬ (1 : Int32) = 0 by decide)]
    exact yes (Or.inl h1)
  · rw [h2, h3, Option.bind_some, Option.bind_some, if_pos (show ¬ (1 : Int32) = 0 by decide), if_pos (show ¬ (1 : Int32) = 0 by decide)]
    exact yes (Or.inr h1)
  · rw [h2, h3, Option.bind_some, Option.bind_some, if_neg (not_not_intro rfl), if_neg (not_not_intro rfl)]
    exact hs_no (-1)
theorem hs_act (hn : 1000 ≤ n) (hb : b + 8100 < 2 ^ 28) (g0 : Gs b (A + 1) m M s M s) (g1 : Gs b (A + 1) m pu s1 pu s1) (hk : F_X11_keep n m s = some s1) (hnow : ∀ c y, c < 82 → pu (A + 1 + c) y = M (A + 1 + c) y) (v v1 v2 v3 : Int32) : HSP b A m M s pu s1 (F_X10_act n A v v1 v2 v3 M pu) (F_X11_act n m v v1 v2 v3 s) := by
  obtain ⟨L3, L2, g⟩ := g0
  obtain ⟨K3, K2, g'⟩ := g1
  have yes : (v = 1 ∨ v = 2) → HSP b A m M s pu s1 ((F_X10_isAct n v v1 v2 v3 M).bind (fun (r_6 : Int32) => (if ¬ r_6 = 0 then (F_X3_guest n (A + 1) v M).bind (fun (r_11 : Nat) => (if (M (r_11 + 1) 3) < 24 then (((F_X7_add n (r_11 + 1) v1 v2 v3 pu).bind (fun (μ_19 : gw_M) => (F_X3_dealOut n (A + 1) μ_19).bind (fun (μ_23 : gw_M) => some ((μ_23 (r_11 + 1) 3), μ_23)))).map (fun (z : Int32 × gw_M) => (z.1, z.2, true))) else some ((-1), M, false))) else some ((-1), M, false)))) ((F_X11_isAct n v v1 v2 v3 s).bind (fun (r_6 : Int32) => (if r_6 = 0 then some ((-1), s) else (F_X11_guestAt n m v s).bind (fun (r_11 : Int32) => (if 0 ≤ (r_11 + (6 : Int32)) ∧ (r_11 + (6 : Int32)).toNatClampNeg < 20813 then (if ¬ (s (m + 1) (r_11 + (6 : Int32)).toNatClampNeg) = 24 then (F_X11_keep n m s).bind (fun (μ_18 : gw_M) => (F_X11_guestAt n m v μ_18).bind (fun (r_21 : Int32) => (if 0 ≤ (r_21 + (6 : Int32)) ∧ (r_21 + (6 : Int32)).toNatClampNeg < 20813 then gw_let (((r_21 + (7 : Int32)) + ((3 : Int32) * (μ_18 (m + 1) (r_21 + (6 : Int32)).toNatClampNeg)))) (fun (w_26 : Int32) => (if 0 ≤ w_26 ∧ w_26.toNatClampNeg < 20813 then gw_let (gw_up μ_18 (m + 1) w_26.toNatClampNeg v1) (fun (μ_28 : gw_M) => (if 0 ≤ (w_26 + (1 : Int32)) ∧ (w_26 + (1 : Int32)).toNatClampNeg < 20813 then gw_let (gw_up μ_28 (m + 1) (w_26 + (1 : Int32)).toNatClampNeg v2) (fun (μ_30 : gw_M) => (if 0 ≤ (w_26 + (2 : Int32)) ∧ (w_26 + (2 : Int32)).toNatClampNeg < 20813 then gw_let (gw_up μ_30 (m + 1) (w_26 + (2 : Int32)).toNatClampNeg v3) (fun (μ_32 : gw_M) => (if 0 ≤ (r_21 + (6 : Int32)) ∧ (r_21 + (6 : Int32)).toNatClampNeg < 20813 then (if 0 ≤ (r_21 + (6 : Int32)) ∧ (r_21 + (6 : Int32)).toNatClampNeg < 20813 then gw_let (gw_up μ_32 (m + 1) (r_21 + (6 : Int32)).toNatClampNeg ((μ_32 (m + 1) (r_21 + (6 : Int32)).toNatClampNeg) + (1 : Int32))) (fun (μ_35 : gw_M) => (if 0 ≤ (r_21 + (6 : Int32)) ∧ (r_21 + (6 : Int32)).toNatClampNeg < 20813 then gw_let ((μ_35 (m + 1) (r_21 + (6 : Int32)).toNatClampNeg)) (fun (w_37 : Int32) => (F_X11_dealOut n m μ_35).bind (fun (μ_39 : gw_M) => some (w_37, μ_39))) else none)) else none) else none)) else none)) else none)) else none)) else none))) else some ((-1), s)) else none))))) := by
    intro hv
    rcases isact hv n v1 v2 v3 M s with ⟨h1, h2⟩ | ⟨h1, h2, k, x, y, rfl, rfl, rfl, b1, b2, b3, b4, b5, b6, b7⟩
    · rw [h1, h2, Option.bind_some, Option.bind_some, if_neg (not_not_intro rfl), if_pos rfl]
      exact hs_no (-1)
    · obtain ⟨z, hz⟩ := gg_ex g hv
      have hz4 := gg_lt hz
      have hgr := gg_rg z hz4
      have h15 : s1 (m + 1) 15 = s (m + 1) 15 := by
        rw [G_rd g' (i := 15) (c := 0) (j := 5) (by decide +kernel), G_rd g (i := 15) (c := 0) (j := 5) (by decide +kernel)]
        exact hnow 0 5 (by decide)
      have hz' := gg_same hz h15
      obtain ⟨Mn, hM24, cM, sM⟩ := G_many g (g := z) hz4
      have cM' : M (A + 1 + gg_c z + 1) 3 = nI Mn := cM
      have pM : pu (A + 1 + (gg_c z + 1)) 3 = nI Mn := (hnow (gg_c z + 1) 3 (by omega)).trans cM
      have pM' : pu (A + 1 + gg_c z + 1) 3 = nI Mn := pM
      have tM : s1 (m + 1) (64 + 162 * z) = nI Mn := (G_rd g' (gd_g z hz4).2.2.2.2.2.2).trans pM
      have i6 : nI (58 + 162 * z) + (6 : Int32) = nI (64 + 162 * z) := by rw [show (6 : Int32) = nI 6 from rfl, nI_add]; congr 1; omega
      have c6 : 0 ≤ nI (64 + 162 * z) ∧ 64 + 162 * z < 20813 := ⟨nI_pos' (by omega), by omega⟩
      rw [h1, h2, Option.bind_some, Option.bind_some, if_pos (show ¬ (1 : Int32) = 0 by decide), if_neg (show ¬ (1 : Int32) = 0 by decide), c_guest g hz, (m_guestAt (n := n) hz).1, Option.bind_some, Option.bind_some, cM', i6, nI_clamp (by omega), if_pos c6, sM]
      by_cases h24 : Mn = 24
      · subst h24
        rw [if_neg (show ¬ nI 24 < 24 by decide), if_neg (show ¬ ¬ nI 24 = 24 by decide)]
        exact hs_no (-1)
      · have hlt : Mn < 24 := by omega
        rw [if_pos (show nI Mn < 24 from nI_lt (b := 24) hlt (by decide)), if_pos (show ¬ nI Mn = 24 from fun d => h24 (nI_inj (b := 24) (by omega) (by omega) d)), hk, Option.bind_some, (m_guestAt (n := n) hz').1, Option.bind_some, i6, nI_clamp (by omega), if_pos c6, tM]
        have hcl : (0 ≤ nI Mn ∧ Mn < 24) := ⟨nI_pos' (by omega), hlt⟩
        have q3 : gw_up pu (A + 1 + gg_c z + 1 + 1) Mn (nI k) (A + 1 + gg_c z + 1) 3 = nI Mn := by rw [up_ne (by omega)]; exact pM'
        have q5 : gw_up (gw_up pu (A + 1 + gg_c z + 1 + 1) Mn (nI k)) (A + 1 + gg_c z + 1 + 2) Mn (nI x) (A + 1 + gg_c z + 1) 3 = nI Mn := by rw [up_ne (by omega)]; exact q3
        have q7 : gw_up (gw_up (gw_up pu (A + 1 + gg_c z + 1 + 1) Mn (nI k)) (A + 1 + gg_c z + 1 + 2) Mn (nI x)) (A + 1 + gg_c z + 1 + 3) Mn (nI y) (A + 1 + gg_c z + 1) 3 = nI Mn := by rw [up_ne (by omega)]; exact q5
        have ca : F_X7_add n (A + 1 + gg_c z + 1) (nI k) (nI x) (nI y) pu = some (gw_up (gw_up (gw_up (gw_up pu (A + 1 + gg_c z + 1 + 1) Mn (nI k)) (A + 1 + gg_c z + 1 + 2) Mn (nI x)) (A + 1 + gg_c z + 1 + 3) Mn (nI y)) (A + 1 + gg_c z + 1) 3 (nI (Mn + 1))) := by
          simp only [F_X7_add, gw_let, pM', nI_clamp (show Mn < 2 ^ 31 by omega), if_pos hcl, q3, q5, q7, nI_1]
        have hw0 : nI (58 + 162 * z) + (7 : Int32) + (3 : Int32) * nI Mn = nI (65 + 162 * z + 3 * Mn) := by rw [show (7 : Int32) = nI 7 from rfl, show (3 : Int32) = nI 3 from rfl, pk_mul, nI_add, nI_add]; congr 1; omega
        have hw1 : nI (65 + 162 * z + 3 * Mn) + (1 : Int32) = nI (66 + 162 * z + 3 * Mn) := by rw [nI_1]; congr 1; omega
        have hw2 : nI (65 + 162 * z + 3 * Mn) + (2 : Int32) = nI (67 + 162 * z + 3 * Mn) := by rw [show (2 : Int32) = nI 2 from rfl, nI_add]; congr 1; omega
        have r64 : gw_up (gw_up (gw_up s1 (m + 1) (65 + 162 * z + 3 * Mn) (nI k)) (m + 1) (66 + 162 * z + 3 * Mn) (nI x)) (m + 1) (67 + 162 * z + 3 * Mn) (nI y) (m + 1) (64 + 162 * z) = nI Mn := by rw [up_ne (by omega), up_ne (by omega), up_ne (by omega)]; exact tM
        rw [ca, Option.bind_some]
        simp only [gw_let, hw0, hw1, hw2, nI_clamp (show 65 + 162 * z + 3 * Mn < 2 ^ 31 by omega), nI_clamp (show 66 + 162 * z + 3 * Mn < 2 ^ 31 by omega), nI_clamp (show 67 + 162 * z + 3 * Mn < 2 ^ 31 by omega)]
        rw [if_pos (show 0 ≤ nI (65 + 162 * z + 3 * Mn) ∧ 65 + 162 * z + 3 * Mn < 20813 from ⟨nI_pos' (by omega), by omega⟩), if_pos (show 0 ≤ nI (66 + 162 * z + 3 * Mn) ∧ 66 + 162 * z + 3 * Mn < 20813 from ⟨nI_pos' (by omega), by omega⟩), if_pos (show 0 ≤ nI (67 + 162 * z + 3 * Mn) ∧ 67 + 162 * z + 3 * Mn < 20813 from ⟨nI_pos' (by omega), by omega⟩), if_pos c6, if_pos c6, if_pos c6, r64, nI_1, up_eq (j := 64 + 162 * z) ⟨rfl, rfl⟩]
        obtain ⟨p, hp, p1, p2⟩ := G_n g' (gd_g z hz4).2.2.2.2.2.1 (n := 23) (gd_gq z hz4).2.2.2.1
        obtain ⟨o1, o2⟩ := G_q g' 1 (by decide) z hz4
        rw [p2, tM, nI_toInt (by omega), nI_toInt (by omega)] at o1
        have hpM : p = 0 ∨ p < Mn + 1 := by
          rcases o1 with o1 | o1
          · exact Or.inl (nI_inj (b := 0) (by omega) (by omega) o1)
          · right; omega
        have G1 := core_prog g' hz4 (p := p) (Mn := Mn + 1) hp (by omega) hpM (μ' := gw_up (gw_up (gw_up (gw_up pu (A + 1 + gg_c z + 1 + 1) Mn (nI k)) (A + 1 + gg_c z + 1 + 2) Mn (nI x)) (A + 1 + gg_c z + 1 + 3) Mn (nI y)) (A + 1 + gg_c z + 1) 3 (nI (Mn + 1))) (s' := gw_up (gw_up (gw_up (gw_up s1 (m + 1) (65 + 162 * z + 3 * Mn) (nI k)) (m + 1) (66 + 162 * z + 3 * Mn) (nI x)) (m + 1) (67 + 162 * z + 3 * Mn) (nI y)) (m + 1) (64 + 162 * z) (nI (Mn + 1))) (by rw [up_ne (by omega), up_ne (by omega), up_ne (by omega), up_ne (by omega)]; exact p1) (by rw [up_eq ⟨by omega, rfl⟩]) (fun a j h1 h2 => by rw [up_ne (by omega), up_ne (by omega), up_ne (by omega), up_ne (by omega)]) (by rw [up_ne (by omega), up_ne (by omega), up_ne (by omega), up_ne (by omega)]; exact p2) (by rw [up_eq ⟨rfl, rfl⟩]) (fun a j h1 => by rw [up_ne (by omega), up_ne (by omega), up_ne (by omega), up_ne (by omega)]) (fun k' hk' => by
          by_cases hkM : k' = Mn
          · subst hkM
            rw [up_ne (j := 64 + 162 * z) (by omega), up_ne (j := 67 + 162 * z + 3 * k') (by omega), up_ne (j := 66 + 162 * z + 3 * k') (by omega), up_eq ⟨rfl, rfl⟩, up_ne (j := 64 + 162 * z) (by omega), up_ne (j := 67 + 162 * z + 3 * k') (by omega), up_eq ⟨rfl, rfl⟩, up_ne (j := 64 + 162 * z) (by omega), up_eq ⟨rfl, rfl⟩]
            refine ⟨?_, ?_, ?_, ?_⟩
            · rw [up_ne (by omega), up_ne (by omega), up_ne (by omega), up_eq ⟨by omega, rfl⟩]
            · rw [up_ne (by omega), up_ne (by omega), up_eq ⟨by omega, rfl⟩]
            · rw [up_ne (by omega), up_eq ⟨by omega, rfl⟩]
            · unfold gq_act
              rw [nI_toInt (by omega), nI_toInt (by omega), nI_toInt (by omega)]
              refine ⟨by omega, by omega, by omega, by omega, by omega, by omega, fun c => ?_, fun c => ?_, fun c => ?_, fun c => ?_⟩
              · have := b4 (nI_inj (b := 3) (by omega) (by omega) c); omega
              · have := b5 (nI_inj (b := 11) (by omega) (by omega) c); omega
              · have := b6 (fun d => c (by rw [d]; rfl)); omega
              · have : v = 2 := by
                  rcases hz with ⟨-, hz0⟩ | ⟨hz2, -⟩
                  · exact absurd hz0 c
                  · exact hz2
                have := b7 this; omega
          · rw [up_ne (j := 64 + 162 * z) (by omega), up_ne (j := 67 + 162 * z + 3 * Mn) (by omega), up_ne (j := 66 + 162 * z + 3 * Mn) (by omega), up_ne (j := 65 + 162 * z + 3 * Mn) (by omega), up_ne (j := 64 + 162 * z) (by omega), up_ne (j := 67 + 162 * z + 3 * Mn) (by omega), up_ne (j := 66 + 162 * z + 3 * Mn) (by omega), up_ne (j := 65 + 162 * z + 3 * Mn) (by omega), up_ne (j := 64 + 162 * z) (by omega), up_ne (j := 67 + 162 * z + 3 * Mn) (by omega), up_ne (j := 66 + 162 * z + 3 * Mn) (by omega), up_ne (j := 65 + 162 * z + 3 * Mn) (by omega)]
            have old := o2 k' (by rw [tM, nI_toInt (by omega)]; omega) (by omega)
            refine ⟨?_, ?_, ?_, old.2.2.2⟩
            · rw [up_ne (by omega), up_ne (by omega), up_ne (by omega), up_ne (by omega)]; exact old.1
            · rw [up_ne (by omega), up_ne (by omega), up_ne (by omega), up_ne (by omega)]; exact old.2.1
            · rw [up_ne (by omega), up_ne (by omega), up_ne (by omega), up_ne (by omega)]; exact old.2.2.1)
        obtain ⟨μ', s', d1, d2, d3, d4⟩ := sim_doG (n := n) hn ⟨_, _, G1⟩ (by omega)
        rw [d1, d2]
        refine ⟨nI (Mn + 1), μ', s', true, ?_, rfl, Or.inr ⟨rfl, Gs_mono d3 (by omega) hb⟩⟩
        have : μ' (A + 1 + gg_c z + 1) 3 = nI (Mn + 1) := by
          rw [d4 _ _ (by unfold dfr; omega), up_eq ⟨rfl, rfl⟩]
        rw [Option.bind_some, this]
        rfl
  simp only [F_X10_act, F_X11_act]
  rcases gst n v M s with ⟨h1, h2, h3⟩ | ⟨h1, h2, h3⟩ | ⟨h1, h1', h2, h3⟩
  · rw [h2, h3, Option.bind_some, Option.bind_some, if_neg (show ¬ (1 : Int32) = 0 by decide), if_neg (show ¬ (1 : Int32) = 0 by decide)]
    exact yes (Or.inl h1)
  · rw [h2, h3, Option.bind_some, Option.bind_some, if_neg (show ¬ (1 : Int32) = 0 by decide), if_neg (show ¬ (1 : Int32) = 0 by decide)]
    exact yes (Or.inr h1)
  · rw [h2, h3, Option.bind_some, Option.bind_some, if_pos rfl, if_pos rfl]
    exact hs_no (-1)
end MUT3
