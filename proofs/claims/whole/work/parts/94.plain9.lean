/-! ===== a plain machine: the reference's values and first table ===== -/
section PLAIN9
variable {m n h : Nat} {s0 : gw_M} {V : Nat → Int32}
theorem m_lp8 {v1 v2 : Int32} (hV : ∀ (s : gw_M) (p : Nat), (∀ x y, x ≠ m + 4 → s x y = s0 x y) → p < 16 → F_X11_plainValue n m (nI p) s = some (V p)) : ∀ (d k f : Nat) (s : gw_M), k + d = 16 → d < f → (∀ x y, x ≠ m + 4 → s x y = s0 x y) → ∃ s', F_X11_layPlain_8 n m f v1 v2 (nI k) s = F_X11_layPlain_33 n m n v1 v2 0 s' ∧ ∀ x y, s' x y = if x = m + 4 ∧ k ≤ y ∧ y < 16 then V y else s x y := by
  intro d
  induction d with
  | zero =>
    intro k f s hk hf hM
    obtain ⟨f, rfl⟩ : ∃ z, f = z + 1 := ⟨f - 1, by omega⟩
    obtain rfl : k = 16 := by omega
    rw [F_X11_layPlain_8, if_pos (by decide)]
    exact ⟨s, rfl, fun x y => by rw [if_neg (by omega)]⟩
  | succ d ih =>
    intro k f s hk hf hM
    obtain ⟨f, rfl⟩ : ∃ z, f = z + 1 := ⟨f - 1, by omega⟩
    rw [F_X11_layPlain_8, if_neg (by rw [show (16 : Int32) = nI 16 from rfl]; exact nI_ge (by omega) (by omega)), hV s k hM (by omega), Option.bind_some, gi (by omega) (by decide), nI_clamp (by omega)]
    simp only [gw_let, nI_1]
    obtain ⟨s', e1, e2⟩ := ih (k + 1) f (gw_up s (m + 4) k (V k)) (by omega) (by omega) (fun x y hx => by rw [up_ne (by omega)]; exact hM x y hx)
    refine ⟨s', e1, fun x y => ?_⟩
    rw [e2, up_at]
    by_cases h3 : x = m + 4 ∧ k ≤ y ∧ y < 16
    · rw [if_pos h3]
      by_cases h4 : y = k
      · rw [if_neg (by omega), if_pos (by omega), h4]
      · rw [if_pos (by omega)]
    · rw [if_neg h3, if_neg (by omega), if_neg (by omega)]
end PLAIN9
