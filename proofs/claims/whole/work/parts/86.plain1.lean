/-! ===== what a plain machine would find: the start ===== -/
section PLAIN1
variable {b A m n h : Nat} {K N M s : gw_M} {L3 L2 : List Nat}
theorem c_foi (g : G b A m K N L3 L2 M s) (hh : h < 3) (h5 : M A 5 = nI h) {q : Nat} (hq16 : q < 16) : F_X3_frameOfInner n A (nI q) M = if s (m + 1) (331 + 162 * h + 2 * q) = -1 then some (-1) else (if 0 ≤ (s (m + 1) (331 + 162 * h + 2 * q)) ∧ (s (m + 1) (331 + 162 * h + 2 * q)).toNatClampNeg < 16 then some (M (A + 3) (s (m + 1) (331 + 162 * h + 2 * q)).toNatClampNeg) else none) := by
  obtain ⟨u1, -, -⟩ := G_t1 g hh hq16
  simp only [F_X3_frameOfInner, c_inHand hh h5, Option.bind_some]
  rw [c_tabHas hq16, Option.bind_some, gi (k := q) hq16 (by decide), nI_clamp (show q < 2 ^ 31 by omega), show A + 37 + 15 * h + 11 + 1 = A + 49 + 15 * h by omega, ← u1]
  by_cases c : s (m + 1) (331 + 162 * h + 2 * q) = -1
  · rw [if_pos c, if_pos c]; rfl
  · rw [if_neg c, if_neg c]; rfl
theorem rd_plainValue (g : G b A m K N L3 L2 M s) (hh : h < 3) (h5 : M A 5 = nI h) {p : Nat} (hp : p < 16) : ∃ r, F_X3_plainValue n A (nI p) M = some r ∧ F_X11_plainValue n m (nI p) s = some r := by
  have h15 := G_s15 g h5
  obtain ⟨u1, -, u3⟩ := G_t1 g hh hp
  have to1 : F_X11_toOf n m 1 (nI p) s = some (s (m + 1) (331 + 162 * h + 2 * p)) := by
    have := m_to01 (n := n) (t := 1) hh h15 (by decide) hp
    rw [show 299 + 162 * h + 32 * 1 + 2 * p = 331 + 162 * h + 2 * p by omega] at this
    exact this
  simp only [F_X3_plainValue, F_X11_plainValue, c_foi g hh h5 hp, to1, c_inHand hh h5, Option.bind_some]
  rw [c_tabHas hp, Option.bind_some, gi (k := p) hp (by decide), nI_clamp (show p < 2 ^ 31 by omega), show A + 37 + 15 * h + 11 + 1 = A + 49 + 15 * h by omega, ← u1]
  rcases u3 with u3 | ⟨q, hq, u3⟩
  · rw [u3]
    exact ⟨0, rfl, rfl⟩
  · have hne : ¬ nI q = -1 := by rw [nI_m1 (by omega)]; exact id
    have hq16 : q < 16 := by omega
    have w1 := G_rd g (gd_t2 q hq16).1
    rw [u3, if_neg hne, gi (k := q) hq16 (by decide), gi (k := q) hq16 (by decide), nI_clamp (show q < 2 ^ 31 by omega), Option.bind_some, if_pos hne, m_to2 hq16, Option.bind_some, w1, if_neg hne, if_neg (show ¬ (1 : Int32) = 0 by decide), show (812 : Int32) = nI 812 from rfl, nI_add, gi (k := 812 + q) (by omega) (by decide), gi (k := 812 + q) (by omega) (by decide), nI_clamp (show 812 + q < 2 ^ 31 by omega)]
    rcases G_n1 g (gd_t2 q hq16).2.2.2.2 (n := 9999) (gd_q2 q hq16).2.2.2.2 with ⟨v1, v2⟩ | ⟨x, hx, v1, v2⟩
    · rcases G_ht g q hq16 with c | ⟨f, hf, c⟩
      · rw [c, v1, v2]
        exact ⟨0, rfl, rfl⟩
      · have hnf : ¬ nI f = -1 := by rw [nI_m1 (by omega)]; exact id
        rw [c, if_neg hnf, if_neg hnf, gi (k := f) (by omega) (by decide), nI_clamp (show f < 2 ^ 31 by omega), Option.bind_some, show (802 : Int32) = nI 802 from rfl, nI_add, gi (k := 802 + f) (by omega) (by decide), nI_clamp (show 802 + f < 2 ^ 31 by omega)]
        exact ⟨_, rfl, congrArg some (G_rd g (gd_fr f (by omega)).1)⟩
    · rcases G_ht g q hq16 with c | ⟨f, hf, c⟩
      · have hnx : ¬ nI x = -1 := by rw [nI_m1 (by omega)]; exact id
        rw [c, v1, v2, if_pos rfl, if_pos rfl, if_pos hnx, F_J9_max_7cf53]
        refine ⟨nI x, ?_, rfl⟩
        split
        · rename_i hlt
          have := nI_toInt (n := x) (by omega)
          rw [Int32.lt_iff_toInt_lt, this] at hlt
          have e0 : (0 : Int32).toInt = 0 := by decide
          omega
        · rfl
      · have hnf : ¬ nI f = -1 := by rw [nI_m1 (by omega)]; exact id
        rw [c, if_neg hnf, if_neg hnf, gi (k := f) (by omega) (by decide), nI_clamp (show f < 2 ^ 31 by omega), Option.bind_some, show (802 : Int32) = nI 802 from rfl, nI_add, gi (k := 802 + f) (by omega) (by decide), nI_clamp (show 802 + f < 2 ^ 31 by omega)]
        exact ⟨_, rfl, congrArg some (G_rd g (gd_fr f (by omega)).1)⟩
end PLAIN1
