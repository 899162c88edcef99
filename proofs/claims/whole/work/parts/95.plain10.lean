/-! ===== a plain machine: the reference's first table and fields ===== -/
section PLAIN10
variable {m n : Nat}
theorem m_lp33 {v1 : Int32} {B : Nat} (hB : B < 600) : ∀ (d k f : Nat) (s : gw_M), k + d = 32 → d < f → ∃ s', F_X11_layPlain_33 n m f v1 (nI B) (nI k) s = F_X11_layPlain_116 n m n v1 (nI B) 0 (gw_up (gw_up (gw_up (gw_up (gw_up s' m 5 0) m 6 (-1)) m 7 (s (m + 1) (B + 5))) m 8 (s (m + 1) (B + 144))) m 9 (s (m + 1) (B + 145))) ∧ ∀ x y, s' x y = if x = m + 5 ∧ k ≤ y ∧ y < 32 then s (m + 1) (B + 79 + y) else s x y := by
  intro d
  induction d with
  | zero =>
    intro k f s hk hf
    obtain ⟨f, rfl⟩ : ∃ z, f = z + 1 := ⟨f - 1, by omega⟩
    obtain rfl : k = 32 := by omega
    refine ⟨s, ?_, fun x y => by rw [if_neg (by omega)]⟩
    rw [F_X11_layPlain_33, if_pos (by decide)]
    simp only [gw_let]
    rw [show (5 : Int32) = nI 5 from rfl, show (144 : Int32) = nI 144 from rfl, nI_add, nI_add, nI_1, gi (k := B + 5) (by omega) (by decide), gi (k := B + 144) (by omega) (by decide), gi (k := B + 144 + 1) (by omega) (by decide), nI_clamp (show B + 5 < 2 ^ 31 by omega), nI_clamp (show B + 144 < 2 ^ 31 by omega), nI_clamp (show B + 144 + 1 < 2 ^ 31 by omega)]
    rw [up_ne (show ¬ (m + 1 = m ∧ B + 5 = 6) by omega), up_ne (show ¬ (m + 1 = m ∧ B + 5 = 5) by omega), up_ne (show ¬ (m + 1 = m ∧ B + 144 = 7) by omega), up_ne (show ¬ (m + 1 = m ∧ B + 144 = 6) by omega), up_ne (show ¬ (m + 1 = m ∧ B + 144 = 5) by omega), up_ne (show ¬ (m + 1 = m ∧ B + 144 + 1 = 8) by omega), up_ne (show ¬ (m + 1 = m ∧ B + 144 + 1 = 7) by omega), up_ne (show ¬ (m + 1 = m ∧ B + 144 + 1 = 6) by omega), up_ne (show ¬ (m + 1 = m ∧ B + 144 + 1 = 5) by omega)]
  | succ d ih =>
    intro k f s hk hf
    obtain ⟨f, rfl⟩ : ∃ z, f = z + 1 := ⟨f - 1, by omega⟩
    rw [F_X11_layPlain_33, if_neg (by rw [show (32 : Int32) = nI 32 from rfl]; exact nI_ge (by omega) (by omega)), show (79 : Int32) = nI 79 from rfl, nI_add, nI_add, gi (k := B + 79 + k) (by omega) (by decide), gi (k := k) (by omega) (by decide), nI_clamp (show B + 79 + k < 2 ^ 31 by omega), nI_clamp (show k < 2 ^ 31 by omega)]
    simp only [gw_let, nI_1]
    obtain ⟨s', e1, e2⟩ := ih (k + 1) f (gw_up s (m + 5) k (s (m + 1) (B + 79 + k))) (by omega) (by omega)
    have hn : ∀ y, gw_up s (m + 5) k (s (m + 1) (B + 79 + k)) (m + 1) y = s (m + 1) y := fun y => up_ne (by omega)
    rw [hn, hn, hn] at e1
    refine ⟨s', e1, fun x y => ?_⟩
    rw [e2, hn, up_at]
    by_cases h3 : x = m + 5 ∧ k ≤ y ∧ y < 32
    · rw [if_pos h3]
      by_cases h4 : y = k
      · rw [if_neg (by omega), if_pos (by omega), h4]
      · rw [if_pos (by omega)]
    · rw [if_neg h3, if_neg (by omega), if_neg (by omega)]
end PLAIN10
