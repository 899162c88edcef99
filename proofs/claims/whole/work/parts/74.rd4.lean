/-! ===== calls that only read (4) ===== -/
section RD4
variable {b A m n h : Nat} {K N M s : gw_M} {L3 L2 : List Nat}
theorem and7 : ∀ k ≤ 7, (7 : Int32) &&& nI k = nI k := by decide
theorem m_gv {f t : Nat} {x : Int32} {p : Nat} (hp : p < 16) (ht : t < 3) : F_X11_given_17 n m (f + 1) (nI p) x (nI t) s = (F_X11_rightsOf n m (nI t) (nI p) s).bind (fun (r3 : Int32) => (F_X11_toOf n m (nI t) (nI p) s).bind (fun (r8 : Int32) => F_X11_given_17 n m f r8 (x &&& r3) (nI (t + 1)) s)) := by
  rw [F_X11_given_17, if_neg (by rw [show (3 : Int32) = nI 3 from rfl, nI_leT (by omega) (by omega)]; omega), if_neg (by rw [nI_m1 (by omega)]; exact id)]
  simp only [gw_let, nI_1]
theorem m_gvm {f t : Nat} {x : Int32} : F_X11_given_17 n m (f + 1) (-1) x (nI t) s = some 0 := by
  rw [F_X11_given_17]
  simp only [F_X11_given_52]
  rw [if_pos trivial, if_neg (not_not_intro trivial), ite_self]
theorem m_gv3 {f : Nat} {x y : Int32} : F_X11_given_17 n m (f + 1) y x (nI 3) s = some (if y = -1 then 0 else x) := by
  rw [F_X11_given_17, if_pos (by decide)]
  simp only [F_X11_given_52]
  by_cases h : y = -1
  · rw [if_neg (not_not_intro h), if_pos h]
  · rw [if_pos h, if_neg h]
theorem rd_given (hn : 1000 ≤ n) (g : G b (A + 1) m K N L3 L2 M s) (v : Int32) : SAME (F_X10_given n A v M) (F_X11_given n m v s) := by
  obtain ⟨h, hh, h5, h15⟩ := G_hand g
  have hT : gq_T (s (m + 1)) := G_q g 0 (by decide)
  obtain ⟨f, rfl⟩ : ∃ f, n = f + 4 := ⟨n - 4, by omega⟩
  simp only [F_X10_given, F_X11_given, F_X10_isPage, F_X11_isPage, c_within, m_isIn, Option.bind_some]
  rcases in_c v 15 (by decide) 15 rfl with hv | ⟨hv, p, hp, rfl⟩
  · rw [hv]; exact sm_eq rfl rfl
  · rw [hv, if_neg (show ¬ (1 : Int32) = 0 by decide), if_pos (show ¬ (1 : Int32) = 0 by decide)]
    obtain ⟨t1, t2, t3, z, hz, t4⟩ := G_t0 g hh (show p < 16 by omega)
    rw [show F_X11_given_17 (f + 4) m (f + 4) (nI p) 7 0 s = F_X11_given_17 (f + 4) m (f + 3 + 1) (nI p) 7 (nI 0) s from rfl, m_gv (by omega) (by decide), m_rights01 (t := 0) hT hh h15 (by decide) (by omega), m_to01 (t := 0) hh h15 (by decide) (by omega)]
    simp only [F_X3_rightsOfVirtual, c_inHand hh h5, Option.bind_some]
    rw [c_tabHas (show p < 16 by omega), Option.bind_some, gi (k := p) (by omega) (by decide), gi (k := p) (by omega) (by decide), nI_clamp (show p < 2 ^ 31 by omega), show A + 1 + 37 + 15 * h + 7 + 1 = A + 1 + 45 + 15 * h by omega, show A + 1 + 37 + 15 * h + 9 = A + 1 + 46 + 15 * h by omega, ← t1, ← t2, show 300 + 162 * h + 32 * 0 + 2 * p = 300 + 162 * h + 2 * p by omega, show 299 + 162 * h + 32 * 0 + 2 * p = 299 + 162 * h + 2 * p by omega, t4, and7 z hz]
    rcases t3 with t3 | ⟨q, hq, t3⟩
    · rw [t3, show f + 3 = f + 2 + 1 from rfl, m_gvm]
      exact sm_eq rfl rfl
    · have hne : ¬ nI q = -1 := by rw [nI_m1 (by omega)]; exact id
      rw [t3, if_neg hne, if_neg (show ¬ (1 : Int32) = 0 by decide), c_rob g hh h5 (show q < 16 by omega), show f + 3 = f + 2 + 1 from rfl, m_gv (by omega) (by decide), m_rights01 (t := 0 + 1) hT hh h15 (by decide) (by omega), m_to01 (t := 0 + 1) hh h15 (by decide) (by omega), show 300 + 162 * h + 32 * (0 + 1) + 2 * q = 332 + 162 * h + 2 * q by omega, show 299 + 162 * h + 32 * (0 + 1) + 2 * q = 331 + 162 * h + 2 * q by omega]
      simp only [Option.bind_some]
      obtain ⟨-, -, u3⟩ := G_t1 g hh (show q < 16 by omega)
      rcases u3 with u3 | ⟨r, hr, u3⟩
      · rw [u3, show f + 2 = f + 1 + 1 from rfl, m_gvm, if_pos rfl]
        exact sm_eq (r := 0) (by rw [show nI z &&& (0 : Int32) = 0 from Int32.and_zero]) rfl
      · have hne2 : ¬ nI r = -1 := by rw [nI_m1 (by omega)]; exact id
        rw [u3, if_neg hne2, nI_clamp (show r < 2 ^ 31 by omega), show f + 2 = f + 1 + 1 from rfl, m_gv (by omega) (by decide), show nI (0 + 1 + 1) = 2 from rfl, m_rights2 hT (show r < 16 by omega), m_to2 (show r < 16 by omega), Option.bind_some, Option.bind_some, show nI (0 + 1 + 1 + 1) = nI 3 from rfl, m_gv3]
        by_cases h6 : s (m + 1) (706 + 2 * r) = -1
        · have h7 := (hT r (by omega)).1 h6
          have h8 : gr_2 (s (m + 1)) r = 0 := by
            unfold gr_2
            rw [h7]
            split <;> rfl
          rw [if_pos h6, h8, Int32.and_zero, Int32.and_zero]
          exact sm_eq rfl rfl
        · rw [if_neg h6, Int32.and_assoc]
          exact sm_eq rfl rfl
theorem m_lzy (hn : 1000 ≤ n) (g : G b A m K N L3 L2 M s) (hh : h < 3) (h5 : M A 5 = nI h) : ∀ (d k f : Nat) (x : Int32), k + d = 16 → d < f → ∃ y, F_X11_lazy_4 n m f x (nI k) s = some y ∧ ∀ i, i < 32 → bt y i = (bt x i || (decide (k ≤ i) && (decide (i < 16) && LZ h (s (m + 1)) i))) := by
  intro d
  induction d with
  | zero =>
    intro k f x hk hf
    obtain ⟨f, rfl⟩ : ∃ f', f = f' + 1 := ⟨f - 1, by omega⟩
    obtain rfl : k = 16 := by omega
    refine ⟨x, ?_, fun i hi => ?_⟩
    · rw [F_X11_lazy_4, if_pos (by decide)]
    · by_cases h1 : i < 16
      · simp [h1, show ¬ 16 ≤ i by omega]
      · simp [h1]
  | succ d ih =>
    intro k f x hk hf
    obtain ⟨f, rfl⟩ : ∃ f', f = f' + 1 := ⟨f - 1, by omega⟩
    rw [F_X11_lazy_4, if_neg (by rw [show (16 : Int32) = nI 16 from rfl, nI_leT (by omega) (by omega)]; omega), m_lz g hh h5 (show k < 16 by omega), Option.bind_some]
    simp only [F_X11_lazy_26, gw_let, nI_1]
    cases hz : LZ h (s (m + 1)) k
    · obtain ⟨y, y1, y2⟩ := ih (k + 1) f (x ||| 0) (by omega) (by omega)
      refine ⟨y, y1, fun i hi => ?_⟩
      rw [y2 i hi, b_or, b_0]
      by_cases hik : i = k
      · subst hik
        simp [hz]
      · by_cases h1 : k ≤ i
        · simp [h1, show k + 1 ≤ i by omega]
        · simp [h1, show ¬ k + 1 ≤ i by omega]
    · obtain ⟨y, y1, y2⟩ := ih (k + 1) f (x ||| ((1 : Int32) <<< (nI k &&& 31))) (by omega) (by omega)
      refine ⟨y, y1, fun i hi => ?_⟩
      rw [y2 i hi, b_set x (by omega) hi]
      by_cases hik : i = k
      · subst hik
        simp [hz, show i < 16 by omega]
      · by_cases h1 : k ≤ i
        · simp [h1, hik, show k + 1 ≤ i by omega]
        · simp [h1, hik, show ¬ k + 1 ≤ i by omega]
theorem rd_lazy (hn : 1000 ≤ n) (g : G b (A + 1) m K N L3 L2 M s) : SAME (F_X10_lazy n A M) (F_X11_lazy n m s) := by
  obtain ⟨h, hh, h5, h15⟩ := G_hand g
  obtain ⟨y, y1, y2⟩ := c_lazy hn g hh h5
  obtain ⟨z, z1, z2⟩ := m_lzy hn g hh h5 16 0 n 0 rfl (by omega)
  have e : z = y := b_ext (fun i hi => by rw [z2 i hi, y2 i hi, b_0]; simp)
  simp only [F_X10_lazy, F_X11_lazy, y1, Option.bind_some]
  exact sm_eq rfl (e ▸ z1)
end RD4
