/-! ===== a plain machine: the values at the start ===== -/
section PLAIN8
variable {A m n h : Nat} {M s0 : gw_M} {V : Nat → Int32}
theorem c_st13 (hV : ∀ (μ : gw_M) (p : Nat), (∀ x y, x < A + 251 → μ x y = M x y) → p < 16 → F_X3_plainValue n (A + 1) (nI p) μ = some (V p)) : ∀ (d k f : Nat) (μ : gw_M), k + d = 16 → d < f → (∀ x y, x < A + 251 → μ x y = M x y) → ∃ μ', F_X6_startFrom_13 n (A + 251) f (A + 1) (nI k) μ = some μ' ∧ ∀ x y, μ' x y = if x = A + 251 ∧ y = 2 then 0 else if x = A + 251 ∧ y = 3 then -1 else if x = A + 267 ∧ k ≤ y ∧ y < 16 then V y else μ x y := by
  intro d
  induction d with
  | zero =>
    intro k f μ hk hf hM
    obtain ⟨f, rfl⟩ : ∃ z, f = z + 1 := ⟨f - 1, by omega⟩
    obtain rfl : k = 16 := by omega
    rw [F_X6_startFrom_13, if_pos (by decide)]
    refine ⟨_, rfl, fun x y => ?_⟩
    show gw_up (gw_up μ (A + 251) 2 0) (A + 251) 3 (-1) x y = _
    rw [up_at, up_at]
    by_cases h1 : x = A + 251 ∧ y = 2
    · rw [if_neg (by omega), if_pos h1, if_pos h1]
    · rw [if_neg h1, if_neg h1, if_neg (show ¬ (x = A + 267 ∧ 16 ≤ y ∧ y < 16) by omega)]
  | succ d ih =>
    intro k f μ hk hf hM
    obtain ⟨f, rfl⟩ : ∃ z, f = z + 1 := ⟨f - 1, by omega⟩
    rw [F_X6_startFrom_13, if_neg (by rw [show (16 : Int32) = nI 16 from rfl]; exact nI_ge (by omega) (by omega)), hV μ k hM (by omega), Option.bind_some, gi (by omega) (by decide), nI_clamp (by omega)]
    simp only [gw_let, nI_1]
    obtain ⟨μ', e1, e2⟩ := ih (k + 1) f (gw_up μ (A + 251 + 16) k (V k)) (by omega) (by omega) (fun x y hx => by rw [up_ne (by omega)]; exact hM x y hx)
    refine ⟨μ', e1, fun x y => ?_⟩
    rw [e2, up_at]
    by_cases h1 : x = A + 251 ∧ y = 2
    · rw [if_pos h1, if_pos h1]
    · rw [if_neg h1, if_neg h1]
      by_cases h2 : x = A + 251 ∧ y = 3
      · rw [if_pos h2, if_pos h2]
      · rw [if_neg h2, if_neg h2]
        by_cases h3 : x = A + 267 ∧ k ≤ y ∧ y < 16
        · rw [if_pos h3]
          by_cases h4 : y = k
          · rw [if_neg (by omega), if_pos (by omega), h4]
          · rw [if_pos (by omega)]
        · rw [if_neg h3, if_neg (by omega), if_neg (by omega)]
end PLAIN8
