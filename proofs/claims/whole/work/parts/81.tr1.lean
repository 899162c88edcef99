/-! ===== on trial: the class goes on with a copy, the reference puts itself aside ===== -/
section TR1
variable {b A m n : Nat} {M s : gw_M}
theorem m_pa2 : ∀ (d k f : Nat) (s : gw_M), k + d = 991 → d < f → ∃ s', F_X11_putAside_2 n m f (nI k) s = some s' ∧ ∀ x y, s' x y = if x = m + 3 ∧ k ≤ y ∧ y < 991 then s (m + 1) (2 + y) else s x y := by
  intro d
  induction d with
  | zero =>
    intro k f s hk hf
    obtain ⟨f, rfl⟩ : ∃ z, f = z + 1 := ⟨f - 1, by omega⟩
    obtain rfl : k = 991 := by omega
    rw [F_X11_putAside_2, if_pos (by decide)]
    exact ⟨s, rfl, fun x y => by rw [if_neg (by omega)]⟩
  | succ d ih =>
    intro k f s hk hf
    obtain ⟨f, rfl⟩ : ∃ z, f = z + 1 := ⟨f - 1, by omega⟩
    rw [F_X11_putAside_2, if_neg (by rw [show (991 : Int32) = nI 991 from rfl]; exact nI_ge (by omega) (by omega)), show (2 : Int32) = nI 2 from rfl, nI_add, gi (k := 2 + k) (by omega) (by decide), gi (k := k) (by omega) (by decide), nI_clamp (show 2 + k < 2 ^ 31 by omega), nI_clamp (show k < 2 ^ 31 by omega)]
    simp only [gw_let, nI_1]
    obtain ⟨s', e1, e2⟩ := ih (k + 1) f (gw_up s (m + 3) k (s (m + 1) (2 + k))) (by omega) (by omega)
    refine ⟨s', e1, fun x y => ?_⟩
    rw [e2 x y, up_at, up_at, if_neg (show ¬ (m + 1 = m + 3 ∧ 2 + y = k) by omega)]
    by_cases h1 : x = m + 3 ∧ k ≤ y ∧ y < 991
    · rw [if_pos h1]
      by_cases h2 : y = k
      · rw [if_neg (by omega), if_pos ⟨h1.1, h2⟩, h2]
      · rw [if_pos (by omega)]
    · rw [if_neg h1, if_neg (by omega), if_neg (by omega)]
theorem m_bb2 : ∀ (d k f : Nat) (s : gw_M), k + d = 991 → d < f → ∃ s', F_X11_bringBack_2 n m f (nI k) s = some s' ∧ ∀ x y, s' x y = if x = m + 1 ∧ 2 + k ≤ y ∧ y < 993 then s (m + 3) (y - 2) else s x y := by
  intro d
  induction d with
  | zero =>
    intro k f s hk hf
    obtain ⟨f, rfl⟩ : ∃ z, f = z + 1 := ⟨f - 1, by omega⟩
    obtain rfl : k = 991 := by omega
    rw [F_X11_bringBack_2, if_pos (by decide)]
    exact ⟨s, rfl, fun x y => by rw [if_neg (by omega)]⟩
  | succ d ih =>
    intro k f s hk hf
    obtain ⟨f, rfl⟩ : ∃ z, f = z + 1 := ⟨f - 1, by omega⟩
    rw [F_X11_bringBack_2, if_neg (by rw [show (991 : Int32) = nI 991 from rfl]; exact nI_ge (by omega) (by omega)), show (2 : Int32) = nI 2 from rfl, nI_add, gi (k := k) (by omega) (by decide), gi (k := 2 + k) (by omega) (by decide), nI_clamp (show 2 + k < 2 ^ 31 by omega), nI_clamp (show k < 2 ^ 31 by omega)]
    simp only [gw_let, nI_1]
    obtain ⟨s', e1, e2⟩ := ih (k + 1) f (gw_up s (m + 1) (2 + k) (s (m + 3) k)) (by omega) (by omega)
    refine ⟨s', e1, fun x y => ?_⟩
    rw [e2 x y, up_at, up_at, if_neg (show ¬ (m + 3 = m + 1 ∧ y - 2 = 2 + k) by omega)]
    by_cases h1 : x = m + 1 ∧ 2 + k ≤ y ∧ y < 993
    · rw [if_pos h1]
      by_cases h2 : y = 2 + k
      · rw [if_neg (by omega), if_pos ⟨h1.1, h2⟩, h2, show 2 + k - 2 = k by omega]
      · rw [if_pos (by omega)]
    · rw [if_neg h1, if_neg (by omega), if_neg (by omega)]
theorem tr_start (hn : 1000 ≤ n) (h : RR b (A + 1) M (s (m + 1))) : ∃ μ1 s1, F_X3_copyFrom n (A + 169) (A + 1) M = some μ1 ∧ F_X11_putAside n m s = some s1 ∧ Gs b (A + 169) m μ1 s1 μ1 s1 ∧ (∀ x y, x < A + 169 ∨ A + 251 ≤ x → μ1 x y = M x y) ∧ (∀ x y, x ≠ m + 3 → s1 x y = s x y) ∧ ∀ y, y < 991 → s1 (m + 3) y = s (m + 1) (2 + y) := by
  obtain ⟨μ1, c1, ⟨L3, L2, c2⟩, c3⟩ := sim_copy (n := n) hn (a := A + 169) (p := A + 1) (by omega) h
  obtain ⟨s1, p1, p2⟩ := m_pa2 (n := n) (m := m) 991 0 n s rfl (by omega)
  have hrow : s1 (m + 1) = s (m + 1) := funext (fun y => by rw [p2, if_neg (by omega)])
  refine ⟨μ1, s1, c1, p1, ⟨L3, L2, fun _ _ _ => rfl, fun _ _ _ => rfl, by rw [hrow]; exact c2⟩, fun x y hx => c3 x y (by omega), fun x y hx => ?_, fun y hy => ?_⟩
  · rw [p2, if_neg (by omega)]
  · rw [p2, if_pos (by omega)]
theorem tr_end {c : Nat} {μ1 s1 μ2 s2 : gw_M} (hn : 1000 ≤ n) (g : Gs c (A + 169) m μ1 s1 μ2 s2) (h1 : ∀ x y, x ≠ m + 3 → s1 x y = s x y) (h2 : ∀ y, y < 991 → s1 (m + 3) y = s (m + 1) (2 + y)) : ∃ s3, F_X11_bringBack n m s2 = some s3 ∧ ∀ x y, x ≠ m + 3 → s3 x y = s x y := by
  obtain ⟨s3, e1, e2⟩ := m_bb2 (n := n) (m := m) 991 0 n s2 rfl (by omega)
  obtain ⟨L3, L2, -, gN, -⟩ := g
  refine ⟨s3, e1, fun x y hx => ?_⟩
  rw [e2]
  by_cases h : x = m + 1 ∧ 2 + 0 ≤ y ∧ y < 993
  · rw [if_pos h, gN _ _ (by omega), h2 _ (by omega), show 2 + (y - 2) = y by omega, h.1]
  · rw [if_neg h, gN _ _ (by omega), h1 x y hx]
theorem fig_r {v : Int32} {e : Nat} (hn : 1000 ≤ n) (g : Gs b (e + 1) m M s M s) : ∃ r, F_X3_figure n (e + 1) v M = some r ∧ F_X11_is n m v s = some r := by
  obtain ⟨L3, L2, g⟩ := g
  obtain ⟨r, r1, r2⟩ := rd_is (n := n) hn g v
  refine ⟨r, ?_, r2⟩
  rw [F_X10_is] at r1
  cases hx : F_X3_figure n (e + 1) v M with
  | none => rw [hx] at r1; cases r1
  | some y => rw [hx] at r1; exact r1
theorem Gs_re {c e : Nat} {K N : gw_M} (g : Gs c e m K N M s) : Gs c e m M s M s := by
  obtain ⟨L3, L2, -, -, g⟩ := g
  exact ⟨L3, L2, fun _ _ _ => rfl, fun _ _ _ => rfl, g⟩
theorem fig_out {w : Int32} {e : Nat} {μ : gw_M} (h : isin w 0 17 = 0) : F_X3_figure n e w μ = some (-1) := by
  have ne : ∀ k, k ≤ 17 → ¬ w = nI k := fun k hk c => by
    rcases isin_0 w 17 (by decide) with ⟨-, h2⟩ | ⟨h2, -⟩
    · exact h2 k hk c
    · have h2' : isin w 0 17 = 1 := h2
      rw [h] at h2'
      exact absurd h2' (by decide)
  rw [F_X3_figure, if_neg (show ¬ w = (0 : Int32) from ne 0 (by decide)), if_neg (show ¬ w = ((0 : Int32) + 1) from ne 1 (by decide)), if_neg (show ¬ w = (((0 : Int32) + 1) + 1) from ne 2 (by decide)), if_neg (show ¬ w = ((((0 : Int32) + 1) + 1) + 1) from ne 3 (by decide)), if_neg (show ¬ w = (((((0 : Int32) + 1) + 1) + 1) + 1) from ne 4 (by decide)), if_neg (show ¬ w = ((((((0 : Int32) + 1) + 1) + 1) + 1) + 1) from ne 5 (by decide)), if_neg (show ¬ w = (((((((0 : Int32) + 1) + 1) + 1) + 1) + 1) + 1) from ne 6 (by decide)), if_neg (show ¬ w = ((((((((0 : Int32) + 1) + 1) + 1) + 1) + 1) + 1) + 1) from ne 7 (by decide)), if_neg (show ¬ w = (((((((((0 : Int32) + 1) + 1) + 1) + 1) + 1) + 1) + 1) + 1) from ne 8 (by decide)), if_neg (show ¬ w = ((((((((((0 : Int32) + 1) + 1) + 1) + 1) + 1) + 1) + 1) + 1) + 1) from ne 9 (by decide)), if_neg (show ¬ w = (((((((((((0 : Int32) + 1) + 1) + 1) + 1) + 1) + 1) + 1) + 1) + 1) + 1) from ne 10 (by decide)), if_neg (show ¬ w = ((((((((((((0 : Int32) + 1) + 1) + 1) + 1) + 1) + 1) + 1) + 1) + 1) + 1) + 1) from ne 11 (by decide)), if_neg (show ¬ w = (((((((((((((0 : Int32) + 1) + 1) + 1) + 1) + 1) + 1) + 1) + 1) + 1) + 1) + 1) + 1) from ne 12 (by decide)), if_neg (show ¬ w = ((((((((((((((0 : Int32) + 1) + 1) + 1) + 1) + 1) + 1) + 1) + 1) + 1) + 1) + 1) + 1) + 1) from ne 13 (by decide)), if_neg (show ¬ w = (((((((((((((((0 : Int32) + 1) + 1) + 1) + 1) + 1) + 1) + 1) + 1) + 1) + 1) + 1) + 1) + 1) + 1) from ne 14 (by decide)), if_neg (show ¬ w = ((((((((((((((((0 : Int32) + 1) + 1) + 1) + 1) + 1) + 1) + 1) + 1) + 1) + 1) + 1) + 1) + 1) + 1) + 1) from ne 15 (by decide)), if_neg (show ¬ w = (((((((((((((((((0 : Int32) + 1) + 1) + 1) + 1) + 1) + 1) + 1) + 1) + 1) + 1) + 1) + 1) + 1) + 1) + 1) + 1) from ne 16 (by decide)), if_neg (show ¬ w = ((((((((((((((((((0 : Int32) + 1) + 1) + 1) + 1) + 1) + 1) + 1) + 1) + 1) + 1) + 1) + 1) + 1) + 1) + 1) + 1) + 1) from ne 17 (by decide))]
theorem tr_fore (hn : 1000 ≤ n) {N : Nat} (hN : N ≤ 200) {w : Int32} {K Nn : gw_M} : ∀ (d k f1 f2 b0 t : Nat) (μ s : gw_M), k + d = N → d < f1 → d < f2 → b0 + 40 * d + 1 < 2 ^ 28 → Gs b0 (A + 169) m K Nn μ s → μ (A + 169) 7 = nI t → t + d ≤ 99999 → ∃ r μ' s', F_X10_foretold_36 n A f1 (nI N) w (nI k) μ = some (r, μ') ∧ F_X11_foretold_19 n m f2 (nI N) w (nI k) s = (F_X11_bringBack n m s').bind (fun (μ_7 : gw_M) => some (r, μ_7)) ∧ F_X3_figure n (A + 169) w μ' = some r ∧ Gs (b0 + 40 * d) (A + 169) m K Nn μ' s' := by
  intro d
  induction d with
  | zero =>
    intro k f1 f2 b0 t μ s hk hf1 hf2 hb g h7 ht
    obtain ⟨f1, rfl⟩ : ∃ z, f1 = z + 1 := ⟨f1 - 1, by omega⟩
    obtain ⟨f2, rfl⟩ : ∃ z, f2 = z + 1 := ⟨f2 - 1, by omega⟩
    obtain rfl : k = N := by omega
    obtain ⟨r, r1, r2⟩ := fig_r (n := n) (v := w) (e := A + 168) hn (Gs_re g)
    have r1' : F_X3_figure n (A + 169) w μ = some r := r1
    refine ⟨r, μ, s, ?_, ?_, r1', g⟩
    · rw [F_X10_foretold_36, if_pos (nI_le (Nat.le_refl k) (by omega)), r1', Option.bind_some]
    · rw [F_X11_foretold_19, if_pos (nI_le (Nat.le_refl k) (by omega)), r2, Option.bind_some]
  | succ d ih =>
    intro k f1 f2 b0 t μ s hk hf1 hf2 hb g h7 ht
    obtain ⟨f1, rfl⟩ : ∃ z, f1 = z + 1 := ⟨f1 - 1, by omega⟩
    obtain ⟨f2, rfl⟩ : ∃ z, f2 = z + 1 := ⟨f2 - 1, by omega⟩
    obtain ⟨μ1, s1, a1, a2, a3, a4⟩ := sim_goOn (n := n) hn g (by omega) (by omega) h7
    obtain ⟨r, μ', s', z1, z2, z3, z4⟩ := ih (k + 1) f1 f2 (b0 + 40) (t + 1) μ1 s1 (by omega) (by omega) (by omega) (by omega) a3 a4 (by omega)
    refine ⟨r, μ', s', ?_, ?_, z3, by rw [show b0 + 40 * (d + 1) = b0 + 40 + 40 * d by omega]; exact z4⟩
    · rw [F_X10_foretold_36, if_neg (nI_ge (by omega) (by omega)), a1, Option.bind_some]
      simp only [gw_let, nI_1]
      exact z1
    · rw [F_X11_foretold_19, if_neg (nI_ge (by omega) (by omega)), a2, Option.bind_some]
      simp only [gw_let, nI_1]
      exact z2
theorem Gs_RR {c e : Nat} {K N : gw_M} (g : Gs c e m K N M s) : RR c e M (s (m + 1)) := by
  obtain ⟨L3, L2, -, -, g⟩ := g
  exact ⟨L3, L2, g⟩
theorem Gs_out {c e : Nat} {K N : gw_M} (g : Gs c e m K N M s) : ∀ x y, x < e ∨ e + 82 ≤ x → M x y = K x y := by
  obtain ⟨L3, L2, g, -⟩ := g
  exact g
theorem tr_foretold (hn : 1000 ≤ n) (hb : b + 8100 < 2 ^ 28) (hmA : A + 268 ≤ m) (g0 : Gs b (A + 1) m M s M s) (v w : Int32) : ∃ r μ' s', F_X10_foretold n A v w M = some (r, μ') ∧ F_X11_foretold n m v w s = some (r, s') ∧ (∀ x y, (A ≤ x ∧ x < A + 169) ∨ m ≤ x → μ' x y = M x y) ∧ ∀ x y, x ≠ m + 3 → s' x y = s x y := by
  obtain ⟨L3, L2, g⟩ := g0
  simp only [F_X10_foretold, F_X11_foretold, F_X10_mayGo, F_X10_mayGo_28, F_X11_canGo, F_X11_canGo_26, c_within, m_isIn, Option.bind_some]
  have no : ∃ r μ' s', some ((-1 : Int32), M) = some (r, μ') ∧ some ((-1 : Int32), s) = some (r, s') ∧ (∀ x y, (A ≤ x ∧ x < A + 169) ∨ m ≤ x → μ' x y = M x y) ∧ ∀ x y, x ≠ m + 3 → s' x y = s x y := ⟨-1, M, s, rfl, rfl, fun _ _ _ => rfl, fun _ _ _ => rfl⟩
  rcases may_go g (top := 200) (by decide) v with h | ⟨h, N, t, h1, h2, h3, rfl, h5, h6, h7, -, h9⟩
  · have h' : isin v 1 200 = 0 := h
    rw [h']; exact no
  · have h' : isin (nI N) 1 200 = 1 := h
    rw [h', if_neg (show ¬ (1 : Int32) = 0 by decide), if_neg (show ¬ (1 : Int32) = 0 by decide)]
    simp only [h7, h9]
    by_cases hg : 99999 < t + N
    · rw [if_pos hg]; exact no
    · rw [if_neg hg, Option.bind_some, Option.bind_some, if_neg (show ¬ (1 : Int32) = 0 by decide), if_pos (show ¬ (1 : Int32) = 0 by decide)]
      obtain ⟨μ1, s1, c1, c2, c3, c4, c5, c6⟩ := tr_start (n := n) (s := s) hn (Gs_RR ⟨L3, L2, g⟩)
      have t7 : μ1 (A + 169) 7 = nI t := by
        obtain ⟨K3, K2, g'⟩ := c3
        have e3 : s1 (m + 1) 3 = nI t := (c5 _ _ (by omega)).trans h6
        exact (G_rd g' (i := 3) (c := 0) (j := 7) (by decide +kernel)).symm.trans e3
      obtain ⟨r, μ2, s2, z1, z2, z3, z4⟩ := tr_fore (n := n) (w := w) hn h2 N 0 n n b t μ1 s1 (by omega) (by omega) (by omega) (by omega) c3 t7 (by omega)
      obtain ⟨s3, y1, y2⟩ := tr_end (n := n) hn z4 c5 c6
      have z1' : F_X10_foretold_36 n A n (nI N) w 0 μ1 = some (r, μ2) := z1
      have z2' : F_X11_foretold_19 n m n (nI N) w 0 s1 = some (r, s3) := by
        rw [show F_X11_foretold_19 n m n (nI N) w 0 s1 = _ from z2, y1, Option.bind_some]
      rw [c1, c2, Option.bind_some, Option.bind_some, z1', z2']
      by_cases hw : isin w 0 17 = 0
      · rw [hw, if_neg (not_not_intro rfl)]
        have : r = -1 := Option.some.inj (z3.symm.trans (fig_out hw))
        subst this
        exact ⟨-1, M, s3, rfl, rfl, fun _ _ _ => rfl, y2⟩
      · rw [if_pos hw]
        exact ⟨r, μ2, s3, rfl, rfl, fun x y hx => by rw [Gs_out z4 x y (by omega), c4 x y (by omega)], y2⟩
end TR1
