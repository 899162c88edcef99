/-! ===== clocks go up; when a timer is due ===== -/
theorem clk_int {x sc o : Int32} (x1 : -1000000 ≤ x.toInt) (x2 : x.toInt ≤ 1000000) (s1 : 1 ≤ sc.toInt) (s2 : sc.toInt ≤ 64) (o1 : -9999 ≤ o.toInt) (o2 : o.toInt ≤ 9999) : (clk x sc o).toInt = x.toInt * sc.toInt / 16 + o.toInt := by
  have b1 : x.toInt * sc.toInt ≤ 1000000 * sc.toInt := Int.mul_le_mul_of_nonneg_right x2 (by omega)
  have b2 : (-1000000) * sc.toInt ≤ x.toInt * sc.toInt := Int.mul_le_mul_of_nonneg_right x1 (by omega)
  have m1 : (x * sc).toInt = x.toInt * sc.toInt := by
    rw [Int32.toInt_mul]
    exact Int.bmod_eq_of_le (by omega) (by omega)
  unfold clk
  rw [Int32.toInt_add, shr4, m1]
  exact Int.bmod_eq_of_le (by omega) (by omega)
theorem clk_mono {x y sc o : Int32} (h : x.toInt ≤ y.toInt) (x1 : -1000000 ≤ x.toInt) (y2 : y.toInt ≤ 1000000) (s1 : 1 ≤ sc.toInt) (s2 : sc.toInt ≤ 64) (o1 : -9999 ≤ o.toInt) (o2 : o.toInt ≤ 9999) : (clk x sc o).toInt ≤ (clk y sc o).toInt := by
  rw [clk_int x1 (by omega) s1 s2 o1 o2, clk_int (by omega) y2 s1 s2 o1 o2]
  have := Int.mul_le_mul_of_nonneg_right (c := sc.toInt) h (by omega)
  omega
theorem clk_rg {t : Nat} {sc o : Int32} (ht : t ≤ 99999) (s1 : 1 ≤ sc.toInt) (s2 : sc.toInt ≤ 64) (o1 : -9999 ≤ o.toInt) (o2 : o.toInt ≤ 9999) : -1000000 ≤ (clk (nI t) sc o).toInt ∧ (clk (nI t) sc o).toInt ≤ 1000000 := by
  have e := nI_toInt (n := t) (by omega)
  rw [clk_int (by omega) (by omega) s1 s2 o1 o2, e]
  have b1 : (t : Int) * sc.toInt ≤ 99999 * sc.toInt := Int.mul_le_mul_of_nonneg_right (by omega) (by omega)
  have b2 : 0 * sc.toInt ≤ (t : Int) * sc.toInt := Int.mul_le_mul_of_nonneg_right (by omega) (by omega)
  omega
section RD8
variable {b A m n h : Nat} {K N M s : gw_M} {L3 L2 : List Nat}
theorem sc_rg (g : G b A m K N L3 L2 M s) {z : Nat} (hz : z < 4) : 1 ≤ (M (A + gg_c z) 5).toInt ∧ (M (A + gg_c z) 5).toInt ≤ 64 ∧ -9999 ≤ (M (A + gg_c z) 6).toInt ∧ (M (A + gg_c z) 6).toInt ≤ 9999 := by
  have h1 := G_rg g (gd_g z hz).2.2.2.1
  have h2 := G_rg g (gd_g z hz).2.2.2.2.1
  unfold gq_r at h1 h2
  rw [(gd_gq z hz).2.1] at h1
  rw [(gd_gq z hz).2.2.1] at h2
  have h1' : 1 ≤ (M (A + gg_c z) 5).toInt ∧ (M (A + gg_c z) 5).toInt ≤ 64 + ((0 : Nat) : Int) * b := h1
  have h2' : -9999 ≤ (M (A + gg_c z) 6).toInt ∧ (M (A + gg_c z) 6).toInt ≤ 9999 + ((0 : Nat) : Int) * b := h2
  omega
theorem ckA_mono (g : G b A m K N L3 L2 M s) (hh : h < 3) {l t u : Nat} (hl : l ≤ 2) (htu : t ≤ u) (hu : u ≤ 99999) : (ckA A h (nI l) (nI t) M).toInt ≤ (ckA A h (nI l) (nI u) M).toInt := by
  have e1 := nI_toInt (n := t) (by omega)
  have e2 := nI_toInt (n := u) (by omega)
  obtain ⟨p1, p2, p3, p4⟩ := sc_rg g (z := 0) (by decide)
  obtain ⟨q1, q2, q3, q4⟩ := sc_rg g (z := 1 + h) (by omega)
  have p1' : 1 ≤ (M (A + 12) 5).toInt := p1
  have p2' : (M (A + 12) 5).toInt ≤ 64 := p2
  have p3' : -9999 ≤ (M (A + 12) 6).toInt := p3
  have p4' : (M (A + 12) 6).toInt ≤ 9999 := p4
  unfold ckA
  match l, hl with
  | 0, _ =>
    rw [if_pos (show nI 0 = 0 from rfl), if_pos (show nI 0 = 0 from rfl), e1, e2]
    omega
  | 1, _ =>
    rw [if_neg (show ¬ nI 1 = 0 by decide), if_neg (show ¬ nI 1 = 0 by decide), if_pos (show nI 1 = 1 from rfl), if_pos (show nI 1 = 1 from rfl)]
    exact clk_mono (by omega) (by omega) (by omega) p1' p2' p3' p4'
  | 2, _ =>
    rw [if_neg (show ¬ nI 2 = 0 by decide), if_neg (show ¬ nI 2 = 0 by decide), if_neg (show ¬ nI 2 = 1 by decide), if_neg (show ¬ nI 2 = 1 by decide)]
    exact clk_mono (clk_mono (by omega) (by omega) (by omega) p1' p2' p3' p4') (clk_rg (by omega) p1' p2' p3' p4').1 (clk_rg (by omega) p1' p2' p3' p4').2 q1 q2 q3 q4
/-- not yet due -/
def nd (A h i : Nat) (M : gw_M) (t : Nat) : Bool := decide (ckA A h (M (A + 22) i) (nI t) M < M (A + 23) i)
theorem nd_mono (g : G b A m K N L3 L2 M s) (hh : h < 3) {i l : Nat} (hl : l ≤ 2) (h22 : M (A + 22) i = nI l) {t u : Nat} (htu : t ≤ u) (hu : u ≤ 99999) (h1 : nd A h i M u = true) : nd A h i M t = true := by
  unfold nd at h1 ⊢
  rw [decide_eq_true_iff, Int32.lt_iff_toInt_lt, h22] at h1 ⊢
  have := ckA_mono g hh hl htu hu
  omega
theorem m_due13 (hn : 1000 ≤ n) (g : G b A m K N L3 L2 M s) (hh : h < 3) (h5 : M A 5 = nI h) {c i l : Nat} (hc : s (m + 1) 26 = nI c) (hic : i < c) (hc12 : c ≤ 12) (hl : l ≤ 2) (h22 : M (A + 22) i = nI l) {st : Nat} : ∀ (f lo hi F : Nat), lo ≤ hi → hi ≤ 100000 → hi - lo < 2 ^ f → f < F → st ≤ lo → (∀ t, st ≤ t → t < lo → nd A h i M t = true) → (hi = 100000 ∨ nd A h i M hi = false) → F_X11_dueOf_13 n m F (nI i) (nI lo) (nI hi) s = some (low (nd A h i M) st (100000 - st)) := by
  have base : ∀ lo F, lo ≤ 100000 → st ≤ lo → (∀ t, st ≤ t → t < lo → nd A h i M t = true) → (lo = 100000 ∨ nd A h i M lo = false) → F_X11_dueOf_13 n m (F + 1) (nI i) (nI lo) (nI lo) s = some (low (nd A h i M) st (100000 - st)) := by
    intro lo F h1 h2 h3 h4
    rw [F_X11_dueOf_13, if_pos (nI_le (Nat.le_refl lo) (by omega)), show (99999 : Int32) = nI 99999 from rfl]
    by_cases hlo : lo ≤ 99999
    · rw [if_pos (nI_le hlo (by omega))]
      rcases h4 with h4 | h4
      · omega
      · rw [low_at h4 (100000 - st) st h2 (by omega) h3]
    · rw [if_neg (nI_ge (by omega) (by omega)), low_all (100000 - st) st (fun t t1 t2 => h3 t t1 (by omega))]
  intro f
  induction f with
  | zero =>
    intro lo hi F h1 h2 h3 h4 h5 h6 h7
    obtain ⟨F, rfl⟩ : ∃ z, F = z + 1 := ⟨F - 1, by omega⟩
    obtain rfl : lo = hi := by omega
    exact base lo F h2 h5 h6 h7
  | succ f ih =>
    intro lo hi F h1 h2 h3 h4 h5' h6 h7
    obtain ⟨F, rfl⟩ : ∃ z, F = z + 1 := ⟨F - 1, by omega⟩
    by_cases he : lo = hi
    · subst he
      exact base lo F h2 h5' h6 h7
    · rw [Nat.pow_succ] at h3
      rw [F_X11_dueOf_13, if_neg (nI_ge (by omega) (by omega)), nI_add, show (2 : Int32) = nI 2 from rfl, pk_div (by omega) (by decide) (by decide)]
      simp only [gw_let, F_X11_dueOf_46, m_isDue hn g hh h5 hc hic hc12, Option.bind_some, nI_1]
      cases hd : nd A h i M ((lo + hi) / 2)
      · have hd' := hd
        unfold nd at hd'
        rw [decide_eq_false_iff_not] at hd'
        rw [if_neg hd', if_neg (show ¬ (1 : Int32) = 0 by decide)]
        exact ih lo ((lo + hi) / 2) F (by omega) (by omega) (by omega) (by omega) h5' h6 (Or.inr hd)
      · have hd' := hd
        unfold nd at hd'
        rw [decide_eq_true_iff] at hd'
        rw [if_pos hd', if_pos rfl]
        exact ih ((lo + hi) / 2 + 1) hi F (by omega) (by omega) (by omega) (by omega) (by omega) (fun t t1 t2 => nd_mono g hh hl h22 (u := (lo + hi) / 2) (by omega) (by omega) hd) h7
theorem c_due56 (g : G b A m K N L3 L2 M s) (hh : h < 3) (h5 : M A 5 = nI h) {i l : Nat} (hl : l ≤ 2) (h22 : M (A + 22) i = nI l) {st : Nat} : ∀ (f lo hi j F : Nat), lo ≤ hi → hi ≤ 99999 → hi - lo < 2 ^ f → j + f ≤ 17 → f < F → st ≤ lo → (∀ t, st ≤ t → t < lo → nd A h i M t = true) → nd A h i M hi = false → F_X3_dueTime_56 n A F (M (A + 22) i) (M (A + 23) i) (nI lo) (nI hi) (nI j) M = some (low (nd A h i M) st (100000 - st)) := by
  have base : ∀ lo j F, lo ≤ 99999 → st ≤ lo → (∀ t, st ≤ t → t < lo → nd A h i M t = true) → nd A h i M lo = false → F_X3_dueTime_56 n A (F + 1) (M (A + 22) i) (M (A + 23) i) (nI lo) (nI lo) (nI j) M = some (low (nd A h i M) st (100000 - st)) := by
    intro lo j F h1 h2 h3 h4
    rw [F_X3_dueTime_56, if_pos (nI_le (Nat.le_refl lo) (by omega)), ite_self, low_at h4 (100000 - st) st h2 (by omega) h3]
  intro f
  induction f with
  | zero =>
    intro lo hi j F h1 h2 h3 h4 h5 h6 h7 h8
    obtain ⟨F, rfl⟩ : ∃ z, F = z + 1 := ⟨F - 1, by omega⟩
    obtain rfl : lo = hi := by omega
    exact base lo j F h2 h6 h7 h8
  | succ f ih =>
    intro lo hi j F h1 h2 h3 h4 h5' h6 h7 h8
    obtain ⟨F, rfl⟩ : ∃ z, F = z + 1 := ⟨F - 1, by omega⟩
    by_cases he : lo = hi
    · subst he
      exact base lo j F h2 h6 h7 h8
    · rw [Nat.pow_succ] at h3
      rw [F_X3_dueTime_56, if_neg (show ¬ (32 : Int32) ≤ nI j by rw [show (32 : Int32) = nI 32 from rfl]; exact nI_ge (by omega) (by omega)), if_neg (nI_ge (by omega) (by omega)), nI_add, show (2 : Int32) = nI 2 from rfl, pk_div (by omega) (by decide) (by decide)]
      simp only [gw_let, F_X3_dueTime_103, c_clock hh h5, Option.bind_some, nI_1]
      cases hd : nd A h i M ((lo + hi) / 2)
      · have hd' := hd
        unfold nd at hd'
        rw [decide_eq_false_iff_not] at hd'
        rw [if_neg hd']
        exact ih lo ((lo + hi) / 2) (j + 1) F (by omega) (by omega) (by omega) (by omega) (by omega) h6 h7 hd
      · have hd' := hd
        unfold nd at hd'
        rw [decide_eq_true_iff] at hd'
        rw [if_pos hd']
        exact ih ((lo + hi) / 2 + 1) hi (j + 1) F (by omega) (by omega) (by omega) (by omega) (by omega) (by omega) (fun t t1 t2 => nd_mono g hh hl h22 (u := (lo + hi) / 2) (by omega) (by omega) hd) h8
theorem rd_due (hn : 1000 ≤ n) (g : G b A m K N L3 L2 M s) (hh : h < 3) (h5 : M A 5 = nI h) {c i T : Nat} (hc : s (m + 1) 26 = nI c) (hi : i < c) (hc12 : c ≤ 12) (hT : T ≤ 99999) (h7 : M A 7 = nI T) : F_X3_dueTime n A (nI i) M = some (low (nd A h i M) (T + 1) (100000 - (T + 1))) ∧ F_X11_dueOf n m (nI i) s = some (low (nd A h i M) (T + 1) (100000 - (T + 1))) := by
  obtain ⟨-, -, -, ⟨l, hl, h22⟩, -⟩ := G_tm (n := n) g hc hi hc12
  have h3 : s (m + 1) 3 = nI T := (G_rd g (i := 3) (c := 0) (j := 7) (by decide +kernel)).trans h7
  constructor
  · simp only [F_X3_dueTime, gw_let, h7, nI_1]
    rw [gi (by omega) (by decide), gi (by omega) (by decide), nI_clamp (by omega), show (99999 : Int32) = nI 99999 from rfl]
    by_cases h9 : T + 1 ≤ 99999
    · rw [if_neg (nI_nlt h9 (by omega)), c_clock hh h5, Option.bind_some]
      by_cases hd : M (A + 23) i ≤ ckA A h (M (A + 22) i) (nI 99999) M
      · rw [if_pos hd]
        refine c_due56 g hh h5 hl h22 17 (T + 1) 99999 0 n h9 (by omega) (by omega) (by omega) (by omega) (by omega) (fun t t1 t2 => by omega) ?_
        unfold nd
        rw [decide_eq_false_iff_not, Int32.lt_iff_toInt_lt]
        rw [Int32.le_iff_toInt_le] at hd
        omega
      · rw [if_neg hd, low_all (100000 - (T + 1)) (T + 1) (fun t t1 t2 => ?_)]
        refine nd_mono g hh hl h22 (u := 99999) (by omega) (by omega) ?_
        unfold nd
        rw [decide_eq_true_iff, Int32.lt_iff_toInt_lt]
        rw [Int32.le_iff_toInt_le] at hd
        omega
    · rw [if_pos (nI_lt (by omega) (by omega)), low_all (100000 - (T + 1)) (T + 1) (fun t t1 t2 => by omega)]
  · simp only [F_X11_dueOf, gw_let, h3, nI_1]
    exact m_due13 hn g hh h5 hc hi hc12 hl h22 17 (T + 1) 100000 n (by omega) (by omega) (by omega) (by omega) (by omega) (fun t t1 t2 => by omega) (Or.inl rfl)
end RD8
