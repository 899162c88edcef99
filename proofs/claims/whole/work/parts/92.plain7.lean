/-! ===== a plain machine: N turns ===== -/
section PLAIN7
variable {A m n h c : Nat}
theorem c_plZero {N : Nat} (hN : N ≤ 200) : ∀ (d k f : Nat) (μ : gw_M), k + d = N → d < f → μ (A + 254) 3 = 0 → F_X10_goPlainly_13 n A f (nI N) (nI k) μ = some μ := by
  intro d
  induction d with
  | zero =>
    intro k f μ hk hf h0
    obtain ⟨f, rfl⟩ : ∃ z, f = z + 1 := ⟨f - 1, by omega⟩
    rw [F_X10_goPlainly_13, if_pos (nI_le (by omega) (by omega))]
  | succ d ih =>
    intro k f μ hk hf h0
    obtain ⟨f, rfl⟩ : ∃ z, f = z + 1 := ⟨f - 1, by omega⟩
    have e1 : F_X6_goOn n (A + 251) μ = some μ := by
      rw [F_X6_goOn, show A + 251 + 3 = A + 254 from rfl, h0, if_neg (not_not_intro rfl)]
    rw [F_X10_goPlainly_13, if_neg (nI_ge (by omega) (by omega)), e1, Option.bind_some]
    simp only [gw_let, nI_1]
    exact ih (k + 1) f μ (by omega) (by omega) h0
theorem sim_plLoop (hh : h < 3) {N : Nat} (hN : N ≤ 200) : ∀ (d k f1 f2 : Nat) (μ s : gw_M), k + d = N → d < f1 → d < f2 → PL (A + 251) m h c μ s → ∃ μ' s', F_X10_goPlainly_13 n A f1 (nI N) (nI k) μ = some μ' ∧ F_X11_layPlain_116 n m f2 (nI N) (nI (58 + 162 * (1 + h))) (nI k) s = some s' ∧ PL (A + 251) m h c μ' s' ∧ FP (A + 251) m μ s μ' s' := by
  have c6 : nI (58 + 162 * (1 + h)) + 6 = nI (64 + 162 * (1 + h)) := by
    rw [show (6 : Int32) = nI 6 from rfl, nI_add]
    congr 1
    omega
  intro d
  induction d with
  | zero =>
    intro k f1 f2 μ s hk hf1 hf2 hP
    obtain ⟨f1, rfl⟩ : ∃ z, f1 = z + 1 := ⟨f1 - 1, by omega⟩
    obtain ⟨f2, rfl⟩ : ∃ z, f2 = z + 1 := ⟨f2 - 1, by omega⟩
    rw [F_X10_goPlainly_13, F_X11_layPlain_116, if_pos (nI_le (by omega) (by omega)), if_pos (nI_le (by omega) (by omega))]
    exact ⟨μ, s, rfl, rfl, hP, FP_refl⟩
  | succ d ih =>
    intro k f1 f2 μ s hk hf1 hf2 hP
    obtain ⟨⟨a1, a2, a3⟩, -⟩ := id hP
    by_cases hc0 : c = 0
    · obtain ⟨f2, rfl⟩ : ∃ z, f2 = z + 1 := ⟨f2 - 1, by omega⟩
      refine ⟨μ, s, c_plZero hN (d + 1) k f1 μ hk hf1 (by rw [show A + 254 = A + 251 + 3 from rfl, a2, hc0]; rfl), ?_, hP, FP_refl⟩
      rw [F_X11_layPlain_116, if_neg (nI_ge (by omega) (by omega)), c6, gi (by omega) (by decide), nI_clamp (by omega), a3, if_pos (by rw [hc0]; decide)]
    · obtain ⟨f1, rfl⟩ : ∃ z, f1 = z + 1 := ⟨f1 - 1, by omega⟩
      obtain ⟨f2, rfl⟩ : ∃ z, f2 = z + 1 := ⟨f2 - 1, by omega⟩
      obtain ⟨μ1, s1, q1, q2, q3, q4⟩ := sim_plTurn (n := n) hh hP (by omega)
      obtain ⟨μ', s', z1, z2, z3, z4⟩ := ih (k + 1) f1 f2 μ1 s1 (by omega) (by omega) (by omega) q3
      refine ⟨μ', s', ?_, ?_, z3, FP_trans q4 z4⟩
      · rw [F_X10_goPlainly_13, if_neg (nI_ge (by omega) (by omega)), q1, Option.bind_some]
        simp only [gw_let, nI_1]
        exact z1
      · rw [F_X11_layPlain_116, if_neg (nI_ge (by omega) (by omega)), c6, gi (by omega) (by decide), nI_clamp (by omega), a3, if_neg (show ¬ nI c ≤ 0 from nI_nle (by omega) (by omega)), q2, Option.bind_some]
        simp only [gw_let, nI_1]
        exact z2
end PLAIN7
