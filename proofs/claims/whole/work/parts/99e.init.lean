/-! ===== a new reference: its row ===== -/
def ini0 (y : Nat) : Int32 := if y = 57 then -1 else if y = 56 then -1 else if y = 20 then -1 else if y = 19 then -1 else if y = 16 then -1 else if y = 14 then -1 else if y = 13 then -1 else if y = 4 then 6 else if y = 2 then 1 else 0
def iniP (r : Nat) : Prop := r = 3 ∨ (79 ≤ r ∧ r < 143 ∧ r % 2 = 1) ∨ (143 ≤ r ∧ r < 146)
def ini (y : Nat) : Int32 := if 828 ≤ y ∧ y < 837 then -1 else if 802 ≤ y ∧ y < 812 then nI (11 * (y - 802)) else if (706 ≤ y ∧ y < 738 ∧ y % 2 = 0) ∨ (754 ≤ y ∧ y < 786 ∧ y % 2 = 0) ∨ (812 ≤ y ∧ y < 828) then -1 else if 58 ≤ y ∧ y < 706 ∧ ((y - 58) % 162 = 3 ∨ (79 ≤ (y - 58) % 162 ∧ (y - 58) % 162 < 143 ∧ (y - 58) % 162 % 2 = 1) ∨ (143 ≤ (y - 58) % 162 ∧ (y - 58) % 162 < 146)) then (if (y - 58) % 162 = 3 then 16 else -1) else ini0 y
section INIT
variable {n m : Nat}
theorem in_297 : ∀ (d k f : Nat) (s : gw_M), k + d = 9 → d < f → ∃ s', F_X11_init_297 n m f (nI k) s = some (gw_cpy s' (m + 1) (m + 2) 0 0 20813) ∧ ∀ x y, s' x y = if x = m + 1 ∧ 828 + k ≤ y ∧ y < 837 then -1 else s x y := by
  intro d
  induction d with
  | zero =>
    intro k f s hk hf
    obtain ⟨f, rfl⟩ : ∃ z, f = z + 1 := ⟨f - 1, by omega⟩
    obtain rfl : k = 9 := by omega
    rw [F_X11_init_297, if_pos (by decide)]
    exact ⟨s, rfl, fun x y => by rw [if_neg (by omega)]⟩
  | succ d ih =>
    intro k f s hk hf
    obtain ⟨f, rfl⟩ : ∃ z, f = z + 1 := ⟨f - 1, by omega⟩
    rw [F_X11_init_297, if_neg (by rw [show (9 : Int32) = nI 9 from rfl]; exact nI_ge (by omega) (by omega)), show (828 : Int32) = nI 828 from rfl, nI_add, gi (k := 828 + k) (by omega) (by decide), nI_clamp (show 828 + k < 2 ^ 31 by omega)]
    simp only [gw_let, nI_1]
    obtain ⟨s', e1, e2⟩ := ih (k + 1) f (gw_up s (m + 1) (828 + k) (-1)) (by omega) (by omega)
    refine ⟨s', e1, fun x y => ?_⟩
    rw [e2, up_at]
    by_cases h1 : x = m + 1 ∧ 828 + k ≤ y ∧ y < 837
    · rw [if_pos h1]
      by_cases h2 : y = 828 + k
      · rw [if_neg (by omega), if_pos (by omega)]
      · rw [if_pos (by omega)]
    · rw [if_neg h1, if_neg (by omega), if_neg (by omega)]
theorem in_269 : ∀ (d k f : Nat) (s : gw_M), k + d = 10 → d < f → ∃ s', F_X11_init_269 n m f (nI k) s = F_X11_init_297 n m n 0 s' ∧ ∀ x y, s' x y = if x = m + 1 ∧ 802 + k ≤ y ∧ y < 812 then nI (11 * (y - 802)) else s x y := by
  intro d
  induction d with
  | zero =>
    intro k f s hk hf
    obtain ⟨f, rfl⟩ : ∃ z, f = z + 1 := ⟨f - 1, by omega⟩
    obtain rfl : k = 10 := by omega
    rw [F_X11_init_269, if_pos (by decide)]
    exact ⟨s, rfl, fun x y => by rw [if_neg (by omega)]⟩
  | succ d ih =>
    intro k f s hk hf
    obtain ⟨f, rfl⟩ : ∃ z, f = z + 1 := ⟨f - 1, by omega⟩
    rw [F_X11_init_269, if_neg (by rw [show (10 : Int32) = nI 10 from rfl]; exact nI_ge (by omega) (by omega)), show (802 : Int32) = nI 802 from rfl, nI_add, gi (k := 802 + k) (by omega) (by decide), nI_clamp (show 802 + k < 2 ^ 31 by omega), show (11 : Int32) = nI 11 from rfl, pk_mul]
    simp only [gw_let, nI_1]
    obtain ⟨s', e1, e2⟩ := ih (k + 1) f (gw_up s (m + 1) (802 + k) (nI (11 * k))) (by omega) (by omega)
    refine ⟨s', e1, fun x y => ?_⟩
    rw [e2, up_at]
    by_cases h1 : x = m + 1 ∧ 802 + k ≤ y ∧ y < 812
    · rw [if_pos h1]
      by_cases h2 : y = 802 + k
      · rw [if_neg (by omega), if_pos (by omega), show y - 802 = k by omega]
      · rw [if_pos (by omega)]
    · rw [if_neg h1, if_neg (by omega), if_neg (by omega)]
theorem in_218 : ∀ (d k f : Nat) (s : gw_M), k + d = 16 → d < f → ∃ s', F_X11_init_218 n m f (nI k) s = F_X11_init_269 n m n 0 s' ∧ ∀ x y, s' x y = if x = m + 1 ∧ ((706 + 2 * k ≤ y ∧ y < 738 ∧ y % 2 = 0) ∨ (754 + 2 * k ≤ y ∧ y < 786 ∧ y % 2 = 0) ∨ (812 + k ≤ y ∧ y < 828)) then -1 else s x y := by
  intro d
  induction d with
  | zero =>
    intro k f s hk hf
    obtain ⟨f, rfl⟩ : ∃ z, f = z + 1 := ⟨f - 1, by omega⟩
    obtain rfl : k = 16 := by omega
    rw [F_X11_init_218, if_pos (by decide)]
    exact ⟨s, rfl, fun x y => by rw [if_neg (by omega)]⟩
  | succ d ih =>
    intro k f s hk hf
    obtain ⟨f, rfl⟩ : ∃ z, f = z + 1 := ⟨f - 1, by omega⟩
    rw [F_X11_init_218, if_neg (by rw [show (16 : Int32) = nI 16 from rfl]; exact nI_ge (by omega) (by omega)), show (706 : Int32) = nI 706 from rfl, show (754 : Int32) = nI 754 from rfl, show (812 : Int32) = nI 812 from rfl, show (2 : Int32) = nI 2 from rfl, pk_mul, nI_add, nI_add, nI_add]
    simp only [gw_let, nI_1]
    rw [gi (k := 706 + 2 * k) (by omega) (by decide), gi (k := 754 + 2 * k) (by omega) (by decide), gi (k := 812 + k) (by omega) (by decide), nI_clamp (show 706 + 2 * k < 2 ^ 31 by omega), nI_clamp (show 754 + 2 * k < 2 ^ 31 by omega), nI_clamp (show 812 + k < 2 ^ 31 by omega)]
    obtain ⟨s', e1, e2⟩ := ih (k + 1) f (gw_up (gw_up (gw_up s (m + 1) (706 + 2 * k) (-1)) (m + 1) (754 + 2 * k) (-1)) (m + 1) (812 + k) (-1)) (by omega) (by omega)
    refine ⟨s', e1, fun x y => ?_⟩
    rw [e2, up_at, up_at, up_at]
    by_cases h0 : x = m + 1 ∧ ((706 + 2 * (k + 1) ≤ y ∧ y < 738 ∧ y % 2 = 0) ∨ (754 + 2 * (k + 1) ≤ y ∧ y < 786 ∧ y % 2 = 0) ∨ (812 + (k + 1) ≤ y ∧ y < 828))
    · rw [if_pos h0, if_pos (by omega)]
    · rw [if_neg h0]
      by_cases h1 : x = m + 1 ∧ y = 812 + k
      · rw [if_pos h1, if_pos (by omega)]
      · rw [if_neg h1]
        by_cases h2 : x = m + 1 ∧ y = 754 + 2 * k
        · rw [if_pos h2, if_pos (by omega)]
        · rw [if_neg h2]
          by_cases h3 : x = m + 1 ∧ y = 706 + 2 * k
          · rw [if_pos h3, if_pos (by omega)]
          · rw [if_neg h3, if_neg (by omega)]
theorem in_179 {rec : Int32 → gw_M → Option gw_M} {g : Nat} (hg : g < 4) : ∀ (d k f : Nat) (s : gw_M), k + d = 3 → d < f → ∃ s', F_X11_init_179 rec n m f (nI g) (nI k) s = rec (nI (g + 1)) s' ∧ ∀ x y, s' x y = if x = m + 1 ∧ 201 + 162 * g + k ≤ y ∧ y < 204 + 162 * g then -1 else s x y := by
  intro d
  induction d with
  | zero =>
    intro k f s hk hf
    obtain ⟨f, rfl⟩ : ∃ z, f = z + 1 := ⟨f - 1, by omega⟩
    obtain rfl : k = 3 := by omega
    rw [F_X11_init_179, if_pos (by decide)]
    simp only [gw_let, nI_1]
    exact ⟨s, rfl, fun x y => by rw [if_neg (by omega)]⟩
  | succ d ih =>
    intro k f s hk hf
    obtain ⟨f, rfl⟩ : ∃ z, f = z + 1 := ⟨f - 1, by omega⟩
    rw [F_X11_init_179, if_neg (by rw [show (3 : Int32) = nI 3 from rfl]; exact nI_ge (by omega) (by omega)), show (58 : Int32) = nI 58 from rfl, show (162 : Int32) = nI 162 from rfl, show (143 : Int32) = nI 143 from rfl, pk_mul, nI_add, nI_add, nI_add, gi (k := 58 + 162 * g + 143 + k) (by omega) (by decide), nI_clamp (show 58 + 162 * g + 143 + k < 2 ^ 31 by omega)]
    simp only [gw_let, nI_1]
    obtain ⟨s', e1, e2⟩ := ih (k + 1) f (gw_up s (m + 1) (58 + 162 * g + 143 + k) (-1)) (by omega) (by omega)
    refine ⟨s', e1, fun x y => ?_⟩
    rw [e2, up_at]
    by_cases h1 : x = m + 1 ∧ 201 + 162 * g + k ≤ y ∧ y < 204 + 162 * g
    · rw [if_pos h1]
      by_cases h2 : y = 58 + 162 * g + 143 + k
      · rw [if_neg (by omega), if_pos (by omega)]
      · rw [if_pos (by omega)]
    · rw [if_neg h1, if_neg (by omega), if_neg (by omega)]
theorem in_144 {rec : Int32 → gw_M → Option gw_M} {g : Nat} (hg : g < 4) : ∀ (d k f : Nat) (s : gw_M), k + d = 32 → d < f → ∃ s', F_X11_init_144 rec n m f (nI g) (nI k) s = F_X11_init_179 rec n m n (nI g) 0 s' ∧ ∀ x y, s' x y = if x = m + 1 ∧ 137 + 162 * g + 2 * k ≤ y ∧ y < 201 + 162 * g ∧ y % 2 = 1 then -1 else s x y := by
  intro d
  induction d with
  | zero =>
    intro k f s hk hf
    obtain ⟨f, rfl⟩ : ∃ z, f = z + 1 := ⟨f - 1, by omega⟩
    obtain rfl : k = 32 := by omega
    rw [F_X11_init_144, if_pos (by decide)]
    exact ⟨s, rfl, fun x y => by rw [if_neg (by omega)]⟩
  | succ d ih =>
    intro k f s hk hf
    obtain ⟨f, rfl⟩ : ∃ z, f = z + 1 := ⟨f - 1, by omega⟩
    rw [F_X11_init_144, if_neg (by rw [show (32 : Int32) = nI 32 from rfl]; exact nI_ge (by omega) (by omega)), show (58 : Int32) = nI 58 from rfl, show (162 : Int32) = nI 162 from rfl, show (79 : Int32) = nI 79 from rfl, show (2 : Int32) = nI 2 from rfl, pk_mul, pk_mul, nI_add, nI_add, nI_add, gi (k := 58 + 162 * g + 79 + 2 * k) (by omega) (by decide), nI_clamp (show 58 + 162 * g + 79 + 2 * k < 2 ^ 31 by omega)]
    simp only [gw_let, nI_1]
    obtain ⟨s', e1, e2⟩ := ih (k + 1) f (gw_up s (m + 1) (58 + 162 * g + 79 + 2 * k) (-1)) (by omega) (by omega)
    refine ⟨s', e1, fun x y => ?_⟩
    rw [e2, up_at]
    by_cases h1 : x = m + 1 ∧ 137 + 162 * g + 2 * k ≤ y ∧ y < 201 + 162 * g ∧ y % 2 = 1
    · rw [if_pos h1]
      by_cases h2 : y = 58 + 162 * g + 79 + 2 * k
      · rw [if_neg (by omega), if_pos (by omega)]
      · rw [if_pos (by omega)]
    · rw [if_neg h1, if_neg (by omega), if_neg (by omega)]
theorem in_120 (hn : 1000 ≤ n) : ∀ (d g f : Nat) (s : gw_M), g + d = 4 → d < f → ∃ s', F_X11_init_120 n m f (nI g) s = F_X11_init_218 n m n 0 s' ∧ ∀ x y, s' x y = if x = m + 1 ∧ 58 + 162 * g ≤ y ∧ y < 706 ∧ ((y - 58) % 162 = 3 ∨ (79 ≤ (y - 58) % 162 ∧ (y - 58) % 162 < 143 ∧ (y - 58) % 162 % 2 = 1) ∨ (143 ≤ (y - 58) % 162 ∧ (y - 58) % 162 < 146)) then (if (y - 58) % 162 = 3 then 16 else -1) else s x y := by
  intro d
  induction d with
  | zero =>
    intro g f s hk hf
    obtain ⟨f, rfl⟩ : ∃ z, f = z + 1 := ⟨f - 1, by omega⟩
    obtain rfl : g = 4 := by omega
    rw [F_X11_init_120, if_pos (by decide)]
    exact ⟨s, rfl, fun x y => by rw [if_neg (by omega)]⟩
  | succ d ih =>
    intro g f s hk hf
    obtain ⟨f, rfl⟩ : ∃ z, f = z + 1 := ⟨f - 1, by omega⟩
    rw [F_X11_init_120, if_neg (by rw [show (4 : Int32) = nI 4 from rfl]; exact nI_ge (by omega) (by omega)), show (58 : Int32) = nI 58 from rfl, show (162 : Int32) = nI 162 from rfl, show (3 : Int32) = nI 3 from rfl, pk_mul, nI_add, nI_add, gi (k := 58 + 162 * g + 3) (by omega) (by decide), nI_clamp (show 58 + 162 * g + 3 < 2 ^ 31 by omega)]
    simp only [gw_let]
    obtain ⟨s1, a1, a2⟩ := in_144 (rec := F_X11_init_120 n m f) (n := n) (m := m) (g := g) (by omega) 32 0 n (gw_up s (m + 1) (58 + 162 * g + 3) 16) rfl (by omega)
    obtain ⟨s2, b1, b2⟩ := in_179 (rec := F_X11_init_120 n m f) (n := n) (m := m) (g := g) (by omega) 3 0 n s1 rfl (by omega)
    obtain ⟨s', e1, e2⟩ := ih (g + 1) f s2 (by omega) (by omega)
    have a1' : F_X11_init_144 (F_X11_init_120 n m f) n m n (nI g) 0 (gw_up s (m + 1) (58 + 162 * g + 3) 16) = _ := a1
    have b1' : F_X11_init_179 (F_X11_init_120 n m f) n m n (nI g) 0 s1 = _ := b1
    refine ⟨s', by rw [a1', b1', e1], fun x y => ?_⟩
    rw [e2, b2, a2, up_at]
    by_cases h1 : x = m + 1 ∧ 58 + 162 * (g + 1) ≤ y ∧ y < 706 ∧ ((y - 58) % 162 = 3 ∨ (79 ≤ (y - 58) % 162 ∧ (y - 58) % 162 < 143 ∧ (y - 58) % 162 % 2 = 1) ∨ (143 ≤ (y - 58) % 162 ∧ (y - 58) % 162 < 146))
    · rw [if_pos h1, if_pos (show x = m + 1 ∧ 58 + 162 * g ≤ y ∧ y < 706 ∧ ((y - 58) % 162 = 3 ∨ (79 ≤ (y - 58) % 162 ∧ (y - 58) % 162 < 143 ∧ (y - 58) % 162 % 2 = 1) ∨ (143 ≤ (y - 58) % 162 ∧ (y - 58) % 162 < 146)) from ⟨h1.1, by omega, h1.2.2⟩)]
    · rw [if_neg h1]
      by_cases hy : x = m + 1 ∧ 58 + 162 * g ≤ y ∧ y < 58 + 162 * (g + 1)
      · obtain ⟨r, hr⟩ : ∃ r, y = 58 + 162 * g + r := ⟨y - (58 + 162 * g), by omega⟩
        have hm : (y - 58) % 162 = r := by
          rw [hr, show 58 + 162 * g + r - 58 = r + 162 * g by omega, Nat.add_mul_mod_self_left, Nat.mod_eq_of_lt (by omega)]
        rw [hm]
        by_cases c1 : 143 ≤ r ∧ r < 146
        · rw [if_pos (by omega), if_pos (by omega), if_neg (by omega)]
        · rw [if_neg (by omega)]
          by_cases c2 : 79 ≤ r ∧ r < 143 ∧ r % 2 = 1
          · rw [if_pos (by omega), if_pos (by omega), if_neg (by omega)]
          · rw [if_neg (by omega)]
            by_cases c3 : r = 3
            · rw [if_pos (by omega), if_pos (by omega), if_pos c3]
            · rw [if_neg (by omega), if_neg (by omega)]
      · rw [if_neg (by omega), if_neg (by omega), if_neg (by omega), if_neg (by omega)]
/-- the reference when it is new -/
theorem in_all (hn : 1000 ≤ n) (μ : gw_M) : ∃ s', F_X11_init_120 n m n 0 (gw_m11 μ m) = some s' ∧ (∀ x y, x ≤ m → s' x y = μ x y) ∧ (∀ y, y < 20813 → s' (m + 1) y = ini y) ∧ ∀ y, y < 20813 → s' (m + 2) y = ini y := by
  obtain ⟨s1, a1, a2⟩ := in_120 (n := n) (m := m) hn 4 0 n (gw_m11 μ m) rfl (by omega)
  obtain ⟨s2, b1, b2⟩ := in_218 (n := n) (m := m) 16 0 n s1 rfl (by omega)
  obtain ⟨s3, c1, c2⟩ := in_269 (n := n) (m := m) 10 0 n s2 rfl (by omega)
  obtain ⟨s4, d1, d2⟩ := in_297 (n := n) (m := m) 9 0 n s3 rfl (by omega)
  have a1' : F_X11_init_120 n m n 0 (gw_m11 μ m) = _ := a1
  have b1' : F_X11_init_218 n m n 0 s1 = _ := b1
  have c1' : F_X11_init_269 n m n 0 s2 = _ := c1
  have d1' : F_X11_init_297 n m n 0 s3 = _ := d1
  have m11a : ∀ x y, x ≤ m → gw_m11 μ m x y = μ x y := fun x y hx => by
    unfold gw_m11
    rw [up_ne (by omega), up_ne (by omega), up_ne (by omega), up_ne (by omega), up_ne (by omega), up_ne (by omega), up_ne (by omega), up_ne (by omega), up_ne (by omega)]
    unfold gw_row
    rw [if_neg (by omega), if_neg (by omega), if_neg (by omega), if_neg (by omega), if_neg (by omega)]
  have m11b : ∀ y, gw_m11 μ m (m + 1) y = ini0 y := fun y => by
    unfold gw_m11 ini0
    rw [up_at, up_at, up_at, up_at, up_at, up_at, up_at, up_at, up_at]
    unfold gw_row
    rw [if_neg (show ¬ m + 1 = m + 5 by omega), if_neg (show ¬ m + 1 = m + 4 by omega), if_neg (show ¬ m + 1 = m + 3 by omega), if_neg (show ¬ m + 1 = m + 2 by omega), if_pos rfl]
    simp only [true_and]
  have row : ∀ y, s4 (m + 1) y = ini y := fun y => by
    rw [d2, c2, b2, a2, m11b]
    unfold ini
    simp only [true_and, Nat.add_zero, Nat.mul_zero]
  refine ⟨gw_cpy s4 (m + 1) (m + 2) 0 0 20813, by rw [a1', b1', c1', d1'], fun x y hx => ?_, fun y hy => ?_, fun y hy => ?_⟩
  · rw [cpy_row, if_neg (by omega), d2, if_neg (by omega), c2, if_neg (by omega), b2, if_neg (by omega), a2, if_neg (by omega), m11a x y hx]
  · rw [cpy_row, if_neg (by omega), row]
  · rw [cpy_row, if_pos ⟨rfl, hy⟩, row]
end INIT
