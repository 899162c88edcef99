/-! ===== on trial (3): till and waits ===== -/
section TR3
variable {b A m n : Nat} {M s : gw_M}
def tcell (i c k : Nat) : Prop := (i = 6 ∧ c = 30 ∧ k = 1) ∨ (i = 9 ∧ c = 34 ∧ k = 0) ∨ (i = 10 ∧ c = 34 ∧ k = 1)
theorem tc_gd {i c k : Nat} (h : tcell i c k) : gd i = some (c, k) ∧ gd_q i = (0, 0, 1) ∧ i < 11 := by
  rcases h with ⟨rfl, rfl, rfl⟩ | ⟨rfl, rfl, rfl⟩ | ⟨rfl, rfl, rfl⟩ <;> exact ⟨by decide +kernel, by decide +kernel, by decide⟩
/-- one turn, and the counter that is watched -/
theorem goOn_c (hn : 1000 ≤ n) (hn2 : n ≤ 100000) {b0 e t i c k x : Nat} {K Nn μ s : gw_M} (hc : tcell i c k) (g : Gs b0 e m K Nn μ s) (hb : b0 + 41 < 2 ^ 28) (ht : t < 99999) (h7 : μ e 7 = nI t) (hx : μ (e + c) k = nI x) (hxb : x ≤ b0) : ∃ μ' s' x', F_X3_goOn n e μ = some μ' ∧ F_X11_goNow n m s = some s' ∧ Gs (b0 + 40) e m K Nn μ' s' ∧ μ' e 7 = nI (t + 1) ∧ x ≤ x' ∧ x' ≤ b0 + 40 ∧ μ' (e + c) k = nI x' ∧ s' (m + 1) i = nI x' := by
  obtain ⟨μ', s', a1, a2, a3, a4⟩ := sim_goOn (n := n) hn g hb ht h7
  obtain ⟨g1, g2, g3⟩ := tc_gd hc
  obtain ⟨x', hx', y1, y2⟩ : ∃ x', x' ≤ b0 + 40 ∧ μ' (e + c) k = nI x' ∧ s' (m + 1) i = nI x' := by
    obtain ⟨L3, L2, g'⟩ := a3
    exact G_nb g' g1 g2
  refine ⟨μ', s', x', a1, a2, a3, a4, ?_, hx', y1, y2⟩
  obtain ⟨p, q, r, p1, p2, p3, p4, p5, p6⟩ := ct_X3_goOn (n := n) (CT_refl (e := e) (μ := μ)) μ' a1
  have key : ∃ z, z ≤ 0 + (8 + 1 * n) ∧ μ' (e + c) k = μ (e + c) k + nI z := by
    rcases hc with ⟨-, rfl, rfl⟩ | ⟨-, rfl, rfl⟩ | ⟨-, rfl, rfl⟩
    · exact ⟨p, p1, p4⟩
    · exact ⟨q, p2, p5⟩
    · exact ⟨r, p3, p6⟩
  obtain ⟨z, z1, z2⟩ := key
  rw [y1, hx, nI_add] at z2
  have := nI_inj (by omega) (by omega) z2
  omega
theorem m_t66 {v : Int32} {z : Int32} : F_X11_tillMore_66 n m v z s = (F_X11_bringBack n m s).bind (fun (μ_2 : gw_M) => some ((if z = 0 then -1 else v), μ_2)) := by
  unfold F_X11_tillMore_66
  congr 1
  funext μ2
  split <;> rfl
theorem m_t51 {i x y : Nat} {v : Int32} (hi : i < 11) (hx : s (m + 1) i = nI x) (hx2 : x < 2 ^ 31) (hy : y < 2 ^ 31) : F_X11_tillMore_51 n m (nI i) (nI y) v s = (F_X11_bringBack n m s).bind (fun (μ_2 : gw_M) => some ((if x = y then -1 else v), μ_2)) := by
  unfold F_X11_tillMore_51
  rw [gi (by omega) (by decide), nI_clamp (by omega), hx, m_t66, m_t66]
  by_cases h : x = y
  · rw [if_pos (by rw [h]), if_pos h, if_pos rfl]
  · rw [if_neg (by rw [nI_eqT hx2 hy]; exact h), if_neg h, if_neg (by decide)]
/-- the reference's turn of the loop -/
theorem m_t13 {f i x y k t : Nat} (hi : i < 11) (hx : s (m + 1) i = nI x) (hx2 : x < 2 ^ 31) (hy : y < 2 ^ 31) (h3 : s (m + 1) 3 = nI t) (ht : t ≤ 99999) (hk : k ≤ 200) : F_X11_tillMore_13 n m (f + 1) (nI i) (nI y) (nI k) s = if k < 200 ∧ t < 99999 ∧ x = y then (F_X11_goNow n m s).bind (fun (μ_6 : gw_M) => F_X11_tillMore_13 n m f (nI i) (nI y) (nI (k + 1)) μ_6) else (F_X11_bringBack n m s).bind (fun (μ_2 : gw_M) => some ((if x = y then -1 else nI k), μ_2)) := by
  rw [F_X11_tillMore_13, h3, show (200 : Int32) = nI 200 from rfl, show (99999 : Int32) = nI 99999 from rfl, gi (by omega) (by decide), nI_clamp (show i < 2 ^ 31 by omega), hx, m_t51 hi hx hx2 hy]
  simp only [gw_let, nI_1]
  by_cases h1 : k < 200
  · rw [if_neg (nI_ge h1 (by omega))]
    by_cases h2 : t < 99999
    · rw [if_neg (nI_ge h2 (by omega))]
      by_cases h4 : x = y
      · rw [if_neg (not_not_intro (by rw [h4])), if_pos ⟨h1, h2, h4⟩]
      · rw [if_pos (by rw [nI_eqT hx2 hy]; exact h4), if_neg (show ¬ (k < 200 ∧ t < 99999 ∧ x = y) from fun c => h4 c.2.2)]
    · rw [if_pos (nI_le (by omega) (by omega)), if_neg (show ¬ (k < 200 ∧ t < 99999 ∧ x = y) from fun c => h2 c.2.1)]
  · rw [if_pos (nI_le (by omega) (by omega)), if_neg (show ¬ (k < 200 ∧ t < 99999 ∧ x = y) from fun c => h1 c.1)]
theorem tr_till31 (hn : 1000 ≤ n) (hn2 : n ≤ 100000) {B t0 x0 : Nat} (hB : B = min 200 (99999 - t0)) (ht0 : t0 ≤ 99999) {K Nn : gw_M} (hK : K (A + 31) 1 = nI x0) : ∀ (d k f1 f2 b0 : Nat) (μ s : gw_M), k + d = B → d < f1 → d < f2 → b0 + 40 * d + 1 < 2 ^ 28 → x0 ≤ b0 → Gs b0 (A + 169) m K Nn μ s → μ (A + 169) 7 = nI (t0 + k) → s (m + 1) (6) = nI x0 → ∃ r μ' s', F_X10_till_31 n A f1 (nI B) (nI (k + 1)) μ = some (r, μ') ∧ F_X11_tillMore_13 n m f2 (nI (6)) (nI x0) (nI k) s = (F_X11_bringBack n m s').bind (fun (μ_2 : gw_M) => some (r, μ_2)) ∧ Gs (b0 + 40 * d) (A + 169) m K Nn μ' s' := by
  have hc : tcell (6) 30 1 := Or.inl ⟨rfl, rfl, rfl⟩
  obtain ⟨g1, g2, g3⟩ := tc_gd hc
  intro d
  induction d with
  | zero =>
    intro k f1 f2 b0 μ s hk hf1 hf2 hb hxb g h7 hx
    obtain ⟨f1, rfl⟩ : ∃ z, f1 = z + 1 := ⟨f1 - 1, by omega⟩
    obtain ⟨f2, rfl⟩ : ∃ z, f2 = z + 1 := ⟨f2 - 1, by omega⟩
    have h3 : s (m + 1) 3 = nI (t0 + k) := by
      obtain ⟨L3, L2, g'⟩ := g
      exact (G_rd g' (i := 3) (c := 0) (j := 7) (by decide +kernel)).trans h7
    refine ⟨-1, μ, s, ?_, ?_, g⟩
    · rw [F_X10_till_31, if_pos (nI_lt (by omega) (by omega))]
    · rw [m_t13 g3 hx (by omega) (by omega) h3 (by omega) (by omega), if_neg (by omega), if_pos rfl]
  | succ d ih =>
    intro k f1 f2 b0 μ s hk hf1 hf2 hb hxb g h7 hx
    obtain ⟨f1, rfl⟩ : ∃ z, f1 = z + 1 := ⟨f1 - 1, by omega⟩
    obtain ⟨f2, rfl⟩ : ∃ z, f2 = z + 1 := ⟨f2 - 1, by omega⟩
    have h3 : s (m + 1) 3 = nI (t0 + k) := by
      obtain ⟨L3, L2, g'⟩ := g
      exact (G_rd g' (i := 3) (c := 0) (j := 7) (by decide +kernel)).trans h7
    have hx1 : μ (A + 169 + 30) 1 = nI x0 := by
      obtain ⟨L3, L2, g'⟩ := g
      exact (G_rd g' g1).symm.trans hx
    obtain ⟨μ1, s1, x', a1, a2, a3, a4, a5, a6, a7, a8⟩ := goOn_c (n := n) hn hn2 hc g (by omega) (show t0 + k < 99999 by omega) h7 hx1 hxb
    have hnow : μ1 (A + 31) 1 = nI x0 := by rw [Gs_out a3 _ _ (by omega)]; exact hK
    have hcell : μ1 (A + 199) 1 = nI x' := a7
    rw [F_X10_till_31, if_neg (nI_nlt (by omega) (by omega)), a1, Option.bind_some, m_t13 g3 hx (by omega) (by omega) h3 (by omega) (by omega), if_pos (show k < 200 ∧ t0 + k < 99999 ∧ x0 = x0 from ⟨by omega, by omega, rfl⟩), a2, Option.bind_some]
    rw [hcell, hnow]
    simp only [gw_let, nI_1]
    by_cases hxx : x' = x0
    · subst hxx
      rw [if_pos (nI_le (Nat.le_refl _) (by omega))]
      obtain ⟨r, μ', s', z1, z2, z3⟩ := ih (k + 1) f1 f2 (b0 + 40) μ1 s1 (by omega) (by omega) (by omega) (by omega) (by omega) a3 a4 a8
      exact ⟨r, μ', s', z1, z2, by rw [show b0 + 40 * (d + 1) = b0 + 40 + 40 * d by omega]; exact z3⟩
    · rw [if_neg (nI_ge (by omega) (by omega))]
      have h3' : s1 (m + 1) 3 = nI (t0 + k + 1) := by
        obtain ⟨L3, L2, g'⟩ := a3
        exact (G_rd g' (i := 3) (c := 0) (j := 7) (by decide +kernel)).trans a4
      obtain ⟨f2, rfl⟩ : ∃ z, f2 = z + 1 := ⟨f2 - 1, by omega⟩
      refine ⟨nI (k + 1), μ1, s1, rfl, ?_, Gs_mono a3 (by omega) (by omega)⟩
      rw [m_t13 g3 a8 (by omega) (by omega) h3' (by omega) (by omega), if_neg (fun c => hxx c.2.2), if_neg hxx]
theorem tr_waits40 (hn : 1000 ≤ n) (hn2 : n ≤ 100000) {w : Nat} (hw : w < 2) {B t0 x0 : Nat} (hB : B = min 200 (99999 - t0)) (ht0 : t0 ≤ 99999) {K Nn : gw_M} (hK : K (A + 35) w = nI x0) : ∀ (d k f1 f2 b0 : Nat) (μ s : gw_M), k + d = B → d < f1 → d < f2 → b0 + 40 * d + 1 < 2 ^ 28 → x0 ≤ b0 → Gs b0 (A + 169) m K Nn μ s → μ (A + 169) 7 = nI (t0 + k) → s (m + 1) (9 + w) = nI x0 → ∃ r μ' s', F_X10_waits_40 n A f1 (nI (w + 1)) (nI B) (nI (k + 1)) μ = some (r, μ') ∧ F_X11_tillMore_13 n m f2 (nI (9 + w)) (nI x0) (nI k) s = (F_X11_bringBack n m s').bind (fun (μ_2 : gw_M) => some (r, μ_2)) ∧ Gs (b0 + 40 * d) (A + 169) m K Nn μ' s' := by
  have hc : tcell (9 + w) 34 w := by
    match w, hw with
    | 0, _ => exact Or.inr (Or.inl ⟨rfl, rfl, rfl⟩)
    | 1, _ => exact Or.inr (Or.inr ⟨rfl, rfl, rfl⟩)
  obtain ⟨g1, g2, g3⟩ := tc_gd hc
  intro d
  induction d with
  | zero =>
    intro k f1 f2 b0 μ s hk hf1 hf2 hb hxb g h7 hx
    obtain ⟨f1, rfl⟩ : ∃ z, f1 = z + 1 := ⟨f1 - 1, by omega⟩
    obtain ⟨f2, rfl⟩ : ∃ z, f2 = z + 1 := ⟨f2 - 1, by omega⟩
    have h3 : s (m + 1) 3 = nI (t0 + k) := by
      obtain ⟨L3, L2, g'⟩ := g
      exact (G_rd g' (i := 3) (c := 0) (j := 7) (by decide +kernel)).trans h7
    refine ⟨-1, μ, s, ?_, ?_, g⟩
    · rw [F_X10_waits_40, if_pos (nI_lt (by omega) (by omega))]
    · rw [m_t13 g3 hx (by omega) (by omega) h3 (by omega) (by omega), if_neg (by omega), if_pos rfl]
  | succ d ih =>
    intro k f1 f2 b0 μ s hk hf1 hf2 hb hxb g h7 hx
    obtain ⟨f1, rfl⟩ : ∃ z, f1 = z + 1 := ⟨f1 - 1, by omega⟩
    obtain ⟨f2, rfl⟩ : ∃ z, f2 = z + 1 := ⟨f2 - 1, by omega⟩
    have h3 : s (m + 1) 3 = nI (t0 + k) := by
      obtain ⟨L3, L2, g'⟩ := g
      exact (G_rd g' (i := 3) (c := 0) (j := 7) (by decide +kernel)).trans h7
    have hx1 : μ (A + 169 + 34) w = nI x0 := by
      obtain ⟨L3, L2, g'⟩ := g
      exact (G_rd g' g1).symm.trans hx
    obtain ⟨μ1, s1, x', a1, a2, a3, a4, a5, a6, a7, a8⟩ := goOn_c (n := n) hn hn2 hc g (by omega) (show t0 + k < 99999 by omega) h7 hx1 hxb
    have hnow : μ1 (A + 35) w = nI x0 := by rw [Gs_out a3 _ _ (by omega)]; exact hK
    have hcell : μ1 (A + 203) w = nI x' := a7
    rw [F_X10_waits_40, if_neg (nI_nlt (by omega) (by omega)), a1, Option.bind_some, m_t13 g3 hx (by omega) (by omega) h3 (by omega) (by omega), if_pos (show k < 200 ∧ t0 + k < 99999 ∧ x0 = x0 from ⟨by omega, by omega, rfl⟩), a2, Option.bind_some]
    rw [nI_pred, gi (k := w) hw (by decide), gi (k := w) hw (by decide), nI_clamp (show w < 2 ^ 31 by omega)]
    rw [hcell, hnow]
    simp only [gw_let, nI_1]
    by_cases hxx : x' = x0
    · subst hxx
      rw [if_pos (nI_le (Nat.le_refl _) (by omega))]
      obtain ⟨r, μ', s', z1, z2, z3⟩ := ih (k + 1) f1 f2 (b0 + 40) μ1 s1 (by omega) (by omega) (by omega) (by omega) (by omega) a3 a4 a8
      exact ⟨r, μ', s', z1, z2, by rw [show b0 + 40 * (d + 1) = b0 + 40 + 40 * d by omega]; exact z3⟩
    · rw [if_neg (nI_ge (by omega) (by omega))]
      have h3' : s1 (m + 1) 3 = nI (t0 + k + 1) := by
        obtain ⟨L3, L2, g'⟩ := a3
        exact (G_rd g' (i := 3) (c := 0) (j := 7) (by decide +kernel)).trans a4
      obtain ⟨f2, rfl⟩ : ∃ z, f2 = z + 1 := ⟨f2 - 1, by omega⟩
      refine ⟨nI (k + 1), μ1, s1, rfl, ?_, Gs_mono a3 (by omega) (by omega)⟩
      rw [m_t13 g3 a8 (by omega) (by omega) h3' (by omega) (by omega), if_neg (fun c => hxx c.2.2), if_neg hxx]
theorem c_min200 {t : Nat} (ht : t ≤ 99999) : F_J9_min_7cf53 n 200 ((99999 : Int32) - nI t) M = some (nI (min 200 (99999 - t))) := by
  simp only [F_J9_min_7cf53]
  rw [show (200 : Int32) = nI 200 from rfl, show (99999 : Int32) = nI 99999 from rfl, nI_sub ht]
  by_cases h : 99999 - t < 200
  · rw [if_pos (nI_lt h (by omega)), Nat.min_eq_right (by omega)]
  · rw [if_neg (nI_nlt (by omega) (by omega)), Nat.min_eq_left (by omega)]
theorem tr_till (hn : 1000 ≤ n) (hn2 : n ≤ 100000) (hb : b + 8100 < 2 ^ 28) (hmA : A + 268 ≤ m) (g0 : Gs b (A + 1) m M s M s) : ∃ r μ' s', F_X10_till n A M = some (r, μ') ∧ F_X11_till n m s = some (r, s') ∧ (∀ x y, (A ≤ x ∧ x < A + 169) ∨ m ≤ x → μ' x y = M x y) ∧ ∀ x y, x ≠ m + 3 → s' x y = s x y := by
  obtain ⟨μ1, s1, c1, c2, c3, c4, c5, c6⟩ := tr_start (n := n) (s := s) hn (Gs_RR g0)
  obtain ⟨L3, L2, g⟩ := g0
  obtain ⟨t, ht, t1, t2⟩ := G_time g
  obtain ⟨x0, hx0, u1, u2⟩ := G_nb g (i := 6) (c := 30) (j := 1) (by decide +kernel) (by decide +kernel)
  have t7 : μ1 (A + 169) 7 = nI (t + 0) := by
    obtain ⟨K3, K2, g'⟩ := c3
    exact (G_rd g' (i := 3) (c := 0) (j := 7) (by decide +kernel)).symm.trans ((c5 _ _ (by omega)).trans t2)
  have n7 : μ1 (A + 1) 7 = nI t := (c4 _ _ (by omega)).trans t1
  have n6 : μ1 (A + 31) 1 = nI x0 := (c4 _ _ (by omega)).trans u1
  obtain ⟨r, μ2, s2, z1, z2, z3⟩ := tr_till31 (n := n) hn hn2 rfl ht n6 (min 200 (99999 - t)) 0 n n b μ1 s1 (by omega) (by omega) (by omega) (by omega) hx0 c3 t7 ((c5 _ _ (by omega)).trans u2)
  obtain ⟨s3, y1, y2⟩ := tr_end (n := n) hn z3 c5 c6
  refine ⟨r, μ2, s3, ?_, ?_, fun x y hx => by rw [Gs_out z3 x y (by omega), c4 x y (by omega)], y2⟩
  · rw [F_X10_till, c1, Option.bind_some, n7, c_min200 ht, Option.bind_some]
    exact z1
  · simp only [F_X11_till, F_X11_tillMore]
    rw [show (6 : Int32) = nI 6 from rfl, gi (by omega) (by decide), nI_clamp (by omega), u2]
    simp only [gw_let]
    rw [c2, Option.bind_some, show F_X11_tillMore_13 n m n (nI 6) (nI x0) 0 s1 = _ from z2, y1, Option.bind_some, bi_some]
theorem tr_waits (hn : 1000 ≤ n) (hn2 : n ≤ 100000) (hb : b + 8100 < 2 ^ 28) (hmA : A + 268 ≤ m) (g0 : Gs b (A + 1) m M s M s) (v : Int32) : ∃ r μ' s', F_X10_waits n A v M = some (r, μ') ∧ F_X11_waits n m v s = some (r, s') ∧ (∀ x y, (A ≤ x ∧ x < A + 169) ∨ m ≤ x → μ' x y = M x y) ∧ ∀ x y, x ≠ m + 3 → s' x y = s x y := by
  obtain ⟨μ1, s1, c1, c2, c3, c4, c5, c6⟩ := tr_start (n := n) (s := s) hn (Gs_RR g0)
  obtain ⟨L3, L2, g⟩ := g0
  obtain ⟨t, ht, t1, t2⟩ := G_time g
  have t7 : μ1 (A + 169) 7 = nI (t + 0) := by
    obtain ⟨K3, K2, g'⟩ := c3
    exact (G_rd g' (i := 3) (c := 0) (j := 7) (by decide +kernel)).symm.trans ((c5 _ _ (by omega)).trans t2)
  have n7 : μ1 (A + 1) 7 = nI t := (c4 _ _ (by omega)).trans t1
  simp only [F_X10_waits, F_X11_waits]
  rcases gst2 n v g with ⟨z, hz, z4, h1, h2, h3, h4, w, hw, rfl⟩ | ⟨h3, h4⟩
  · have hd : gd (9 + w) = some (34, w) ∧ gd_q (9 + w) = (0, 0, 1) := by
      match w, hw with
      | 0, _ => exact ⟨by decide +kernel, by decide +kernel⟩
      | 1, _ => exact ⟨by decide +kernel, by decide +kernel⟩
    obtain ⟨x0, hx0, u1, u2⟩ := G_nb g hd.1 hd.2
    have n6 : μ1 (A + 35) w = nI x0 := (c4 _ _ (by omega)).trans u1
    obtain ⟨r, μ2, s2, z1, z2, z3⟩ := tr_waits40 (n := n) hn hn2 hw rfl ht n6 (min 200 (99999 - t)) 0 n n b μ1 s1 (by omega) (by omega) (by omega) (by omega) hx0 c3 t7 ((c5 _ _ (by omega)).trans u2)
    obtain ⟨s3, y1, y2⟩ := tr_end (n := n) hn z3 c5 c6
    rw [h3, h4, Option.bind_some, Option.bind_some, if_pos (show ¬ (1 : Int32) = 0 by decide), if_neg (show ¬ (1 : Int32) = 0 by decide)]
    refine ⟨r, μ2, s3, ?_, ?_, fun x y hx => by rw [Gs_out z3 x y (by omega), c4 x y (by omega)], y2⟩
    · rw [c1, Option.bind_some, n7, c_min200 ht, Option.bind_some]
      exact z1
    · simp only [F_X11_tillMore]
      rw [show (9 : Int32) = nI 9 from rfl, nI_add, show 9 + (w + 1) = 9 + w + 1 by omega, nI_pred, gi (by omega) (by decide), nI_clamp (by omega), u2]
      simp only [gw_let]
      rw [c2, Option.bind_some, show F_X11_tillMore_13 n m n (nI (9 + w)) (nI x0) 0 s1 = _ from z2, y1, Option.bind_some, bi_some]
  · rw [h3, h4]
    exact ⟨-1, M, s, rfl, rfl, fun _ _ _ => rfl, fun _ _ _ => rfl⟩
end TR3
