/-! ===== calls that only read ===== -/
def SAME (X Y : Option Int32) : Prop := ∃ r, X = some r ∧ Y = some r
section RD1
variable {b A m n : Nat} {K N M s : gw_M} {L3 L2 : List Nat}
theorem sm_eq {X Y : Option Int32} {r : Int32} (h1 : X = some r) (h2 : Y = some r) : SAME X Y := ⟨r, h1, h2⟩
theorem in_c (v : Int32) (k : Nat) (hk : k < 2 ^ 31) (t : Int32) (ht : t = nI k) : isin v 0 t = 0 ∨ (isin v 0 t = 1 ∧ ∃ j, j ≤ k ∧ v = nI j) := by
  subst ht
  rcases isin_0 v k hk with ⟨h, -⟩ | ⟨h, j, hj, e⟩
  · exact Or.inl h
  · exact Or.inr ⟨h, j, hj, e⟩
theorem gi {α : Type} {k N : Nat} (h : k < N) (hN : N < 2 ^ 31) {X Y : α} : (if 0 ≤ nI k ∧ (nI k).toNatClampNeg < N then X else Y) = X := if_pos (of_eq_true (ckN h hN))
theorem gst2 (n : Nat) (v : Int32) (g : G b (A + 1) m K N L3 L2 M s) : (∃ z, gg_is s m v z ∧ z < 4 ∧ F_X3_guest n (A + 1) v M = some (A + 1 + gg_c z) ∧ F_X11_guestAt n m v s = some (nI (58 + 162 * z)) ∧ F_X10_isGuest n v M = some 1 ∧ F_X11_isGuest n v s = some 1 ∧ ∃ k, k < 2 ∧ v = nI (k + 1)) ∨ (F_X10_isGuest n v M = some 0 ∧ F_X11_isGuest n v s = some 0) := by
  rcases gst n v M s with ⟨h, h1, h2⟩ | ⟨h, h1, h2⟩ | ⟨-, -, h1, h2⟩
  · obtain ⟨z, hz⟩ := gg_ex g (Or.inl h)
    exact Or.inl ⟨z, hz, gg_lt hz, c_guest g hz, (m_guestAt hz).1, h1, h2, 0, by decide, h⟩
  · obtain ⟨z, hz⟩ := gg_ex g (Or.inr h)
    exact Or.inl ⟨z, hz, gg_lt hz, c_guest g hz, (m_guestAt hz).1, h1, h2, 1, by decide, h⟩
  · exact Or.inr ⟨h1, h2⟩
theorem rd_frame (g : G b (A + 1) m K N L3 L2 M s) (v : Int32) : SAME (F_X10_frame n A v M) (F_X11_frame n m v s) := by
  simp only [F_X10_frame, F_X10_isFrame, F_X11_frame, c_within, m_isIn, Option.bind_some]
  rcases in_c v 9 (by decide) 9 rfl with h | ⟨h, k, hk, rfl⟩
  · rw [h]; exact sm_eq rfl rfl
  · rw [h, if_neg (show ¬ (1 : Int32) = 0 by decide), if_neg (show ¬ (1 : Int32) = 0 by decide), show (802 : Int32) = nI 802 from rfl, nI_add, gi (by omega) (by decide), gi (by omega) (by decide), nI_clamp (by omega), nI_clamp (by omega)]
    exact sm_eq rfl (congrArg some (G_rd g (gd_fr k (by omega)).1))
theorem rd_stored (g : G b (A + 1) m K N L3 L2 M s) (v : Int32) : SAME (F_X10_stored n A v M) (F_X11_stored n m v s) := by
  simp only [F_X10_stored, F_X10_isPage, F_X11_isPage, F_X11_stored, c_within, m_isIn, Option.bind_some]
  rcases in_c v 15 (by decide) 15 rfl with h | ⟨h, k, hk, rfl⟩
  · rw [h]; exact sm_eq rfl rfl
  · rw [h, if_neg (show ¬ (1 : Int32) = 0 by decide), if_neg (show ¬ (1 : Int32) = 0 by decide), show (812 : Int32) = nI 812 from rfl, nI_add, gi (by omega) (by decide), gi (by omega) (by decide), nI_clamp (by omega), nI_clamp (by omega)]
    exact sm_eq rfl (congrArg some (G_rd g (gd_t2 k (by omega)).2.2.2.2))
theorem rd_spent (g : G b (A + 1) m K N L3 L2 M s) (v : Int32) : SAME (F_X10_spent n A v M) (F_X11_spent n m v s) := by
  simp only [F_X10_spent, F_X11_spent, c_within, m_isIn, Option.bind_some]
  rcases in_c v 3 (by decide) 3 rfl with h | ⟨h, k, hk, rfl⟩
  · rw [h]; exact sm_eq rfl rfl
  · rw [h, if_neg (show ¬ (1 : Int32) = 0 by decide), if_neg (show ¬ (1 : Int32) = 0 by decide), show (28 : Int32) = nI 28 from rfl, nI_add, gi (by omega) (by decide), gi (by omega) (by decide), nI_clamp (by omega), nI_clamp (by omega)]
    exact sm_eq rfl (congrArg some (G_rd g (gd_sp k (by omega))))
theorem rd_seenOf (g : G b (A + 1) m K N L3 L2 M s) (v w : Int32) : SAME (F_X10_seenOf n A v w M) (F_X11_seenOf n m v w s) := by
  simp only [F_X10_seenOf, F_X10_seenOf_35, F_X10_isEvent, F_X11_seenOf, c_within, m_isIn, Option.bind_some]
  rcases in_c v 7 (by decide) 7 rfl with h | ⟨h, k, hk, rfl⟩
  · rw [h]; exact sm_eq rfl rfl
  · rw [h, if_neg (show ¬ (1 : Int32) = 0 by decide), if_neg (show ¬ (1 : Int32) = 0 by decide)]
    rcases in_c w 2 (by decide) 2 rfl with h2 | ⟨h2, j, hj, rfl⟩
    · rw [h2]; exact sm_eq rfl rfl
    · rw [h2, if_neg (show ¬ (1 : Int32) = 0 by decide), if_pos (show ¬ (1 : Int32) = 0 by decide), show (32 : Int32) = nI 32 from rfl, show (3 : Int32) = nI 3 from rfl, pk_mul, nI_add, nI_add, nI_add, gi (by omega) (by decide), gi (by omega) (by decide), nI_clamp (by omega), nI_clamp (by omega), Nat.add_assoc]
      exact sm_eq rfl (congrArg some (G_rd g (gd_so (3 * k + j) (by omega))))
theorem rd_copied (g : G b (A + 1) m K N L3 L2 M s) : SAME (F_X10_copied n A M) (F_X11_copied n m s) := sm_eq rfl (congrArg some (G_rd g (i := 27) (c := 1) (j := 3) (by decide +kernel)))
theorem rd_changed (g : G b (A + 1) m K N L3 L2 M s) : SAME (F_X10_changed n A M) (F_X11_changed n m s) := sm_eq rfl (congrArg some (G_rd g (i := 21) (c := 1) (j := 4) (by decide +kernel)))
theorem rd_handled (g : G b (A + 1) m K N L3 L2 M s) (v : Int32) : SAME (F_X10_handled n A v M) (F_X11_handled n m v s) := by
  simp only [F_X10_handled, F_X11_handled, F_X10_mayHaveHandler, F_X11_isHandled, F_X10_mayHaveHandler_22, F_X11_isHandled_22]
  by_cases h1 : v = 1
  · subst h1; exact sm_eq rfl (congrArg some (G_rd g (gd_hn 1 (by decide)).1))
  · by_cases h4 : v = 4
    · subst h4; exact sm_eq rfl (congrArg some (G_rd g (gd_hn 4 (by decide)).1))
    · by_cases h6 : v = 6
      · subst h6; exact sm_eq rfl (congrArg some (G_rd g (gd_hn 6 (by decide)).1))
      · by_cases h8 : v = 8
        · subst h8; exact sm_eq rfl (congrArg some (G_rd g (gd_hn 8 (by decide)).1))
        · rw [if_neg h1, if_neg h4, if_neg h6, if_pos h8]
          exact sm_eq rfl rfl
theorem rd_trapped (g : G b (A + 1) m K N L3 L2 M s) (v : Int32) : SAME (F_X10_trapped n A v M) (F_X11_trapped n m v s) := by
  obtain ⟨h, hh, h5, h15⟩ := G_hand g
  obtain ⟨d1, d2, d3, -, -, -⟩ := gd_i3 h hh
  have hm := (m_guestAt (n := n) (s := s) (m := m) (gu := 2) (Or.inr ⟨rfl, h, hh, h15, rfl⟩)).1
  have e1 : s (m + 1) (58 + 162 * (1 + h) + 143) = M (A + 1 + 37 + 15 * h) 3 := by
    rw [show 58 + 162 * (1 + h) + 143 = 363 + 162 * h by omega, Nat.add_assoc (A + 1) 37]; exact G_rd g d1
  have e2 : s (m + 1) (58 + 162 * (1 + h) + 144 + 0) = M (A + 1 + 37 + 15 * h) 4 := by
    rw [show 58 + 162 * (1 + h) + 144 + 0 = 364 + 162 * h by omega, Nat.add_assoc (A + 1) 37]; exact G_rd g d2
  have e3 : s (m + 1) (58 + 162 * (1 + h) + 144 + 1) = M (A + 1 + 37 + 15 * h) 5 := by
    rw [show 58 + 162 * (1 + h) + 144 + 1 = 365 + 162 * h by omega, Nat.add_assoc (A + 1) 37]; exact G_rd g d3
  simp only [F_X10_trapped, F_X11_trapped, c_inHand hh h5, hm, m_isIn, Option.bind_some]
  rw [show (144 : Int32) = nI 144 from rfl, show (143 : Int32) = nI 143 from rfl, nI_add, nI_add, gi (k := 58 + 162 * (1 + h) + 143) (by omega) (by decide), nI_clamp (show 58 + 162 * (1 + h) + 143 < 2 ^ 31 by omega), e1]
  rcases in_c v 1 (by decide) 1 rfl with h' | ⟨h', k, hk, rfl⟩
  · rw [h']
    by_cases h2 : v = 2
    · subst h2
      exact sm_eq rfl rfl
    · have n0 : ¬ v = 0 := by
        intro c; subst c; exact absurd h' (by decide)
      have n1 : ¬ v = (0 : Int32) + 1 := by
        intro c; subst c; exact absurd h' (by decide)
      rw [if_neg n0, if_neg n1, if_neg (show ¬ v = (((0 : Int32) + 1) + 1) from h2), if_pos h2]
      exact sm_eq rfl rfl
  · rw [h', nI_add, gi (k := 58 + 162 * (1 + h) + 144 + k) (by omega) (by decide), nI_clamp (show 58 + 162 * (1 + h) + 144 + k < 2 ^ 31 by omega)]
    match k, hk with
    | 0, _ => rw [e2]; exact sm_eq rfl rfl
    | 1, _ => rw [e3]; exact sm_eq rfl rfl
theorem rd_wanted (g : G b (A + 1) m K N L3 L2 M s) (v : Int32) : SAME (F_X10_wanted n A v M) (F_X11_wanted n m v s) := by
  obtain ⟨e1, e2⟩ := G_w g
  simp only [F_X10_wanted, F_X11_wanted, m_isIn, Option.bind_some]
  rcases in_c v 1 (by decide) 1 rfl with h' | ⟨h', k, hk, rfl⟩
  · rw [h']
    by_cases h2 : v = 2
    · subst h2
      rw [e1, e2]
      exact sm_eq rfl rfl
    · have n0 : ¬ v = 0 := by
        intro c; subst c; exact absurd h' (by decide)
      have n1 : ¬ v = (0 : Int32) + 1 := by
        intro c; subst c; exact absurd h' (by decide)
      rw [if_neg n0, if_neg n1, if_neg (show ¬ v = (((0 : Int32) + 1) + 1) from h2), if_pos h2]
      exact sm_eq rfl rfl
  · match k, hk with
    | 0, _ => exact sm_eq (r := M (A + 20) 0) rfl (congrArg some e1)
    | 1, _ => exact sm_eq (r := M (A + 20) 1) rfl (congrArg some e2)
theorem rd_whose (g : G b (A + 1) m K N L3 L2 M s) (v : Int32) : SAME (F_X10_whose n A v M) (F_X11_whose n m v s) := by
  obtain ⟨e1, e2⟩ := G_w g
  simp only [F_X10_whose, F_X10_isEvent, F_X11_whose, c_within, m_isIn, Option.bind_some]
  rcases in_c v 7 (by decide) 7 rfl with h | ⟨h, k, hk, rfl⟩
  · rw [h]; exact sm_eq rfl rfl
  · rw [h, if_neg (show ¬ (1 : Int32) = 0 by decide), if_neg (show ¬ (1 : Int32) = 0 by decide), c_seer (by omega), m_who (by omega), e1, e2]
    exact sm_eq rfl rfl
theorem rd_pending (g : G b (A + 1) m K N L3 L2 M s) (v : Int32) : SAME (F_X10_pending n A v M) (F_X11_pending n m v s) := by
  simp only [F_X10_pending, F_X11_pending]
  rcases gst2 n v g with ⟨z, hz, z4, h1, h2, h3, h4, k, hk, hv⟩ | ⟨h3, h4⟩
  · rw [h3, h4, h1, h2]
    simp only [Option.bind_some]
    rw [if_neg (show ¬ (1 : Int32) = 0 by decide), if_neg (show ¬ (1 : Int32) = 0 by decide), nI_add0, gi (by omega) (by decide), nI_clamp (by omega)]
    exact sm_eq rfl (congrArg some (G_rd g (gd_g z z4).1))
  · rw [h3, h4]; exact sm_eq rfl rfl
theorem rd_service (g : G b (A + 1) m K N L3 L2 M s) (v : Int32) : SAME (F_X10_service n A v M) (F_X11_service n m v s) := by
  simp only [F_X10_service, F_X11_service]
  rcases gst2 n v g with ⟨z, hz, z4, h1, h2, h3, h4, k, hk, hv⟩ | ⟨h3, h4⟩
  · rw [h3, h4, h1, h2]
    simp only [Option.bind_some]
    rw [if_neg (show ¬ (1 : Int32) = 0 by decide), if_neg (show ¬ (1 : Int32) = 0 by decide), nI_1, gi (by omega) (by decide), nI_clamp (by omega), show 58 + 162 * z + 1 = 59 + 162 * z by omega]
    exact sm_eq rfl (congrArg some (G_rd g (gd_g z z4).2.1))
  · rw [h3, h4]; exact sm_eq rfl rfl
theorem rd_isOpen (g : G b (A + 1) m K N L3 L2 M s) (v : Int32) : SAME (F_X10_isOpen n A v M) (F_X11_isOpen n m v s) := by
  simp only [F_X10_isOpen, F_X11_isOpen, F_X10_isOpen_25, F_X11_isOpen_27]
  rcases gst2 n v g with ⟨z, hz, z4, h1, h2, h3, h4, k, hk, hv⟩ | ⟨h3, h4⟩
  · rw [h3, h4, h1, h2]
    simp only [Option.bind_some]
    obtain ⟨y, hy, y1, y2⟩ := G_n g (gd_g z z4).2.2.1 (n := 1) (gd_gq z z4).1
    rw [if_neg (show ¬ (1 : Int32) = 0 by decide), if_neg (show ¬ (1 : Int32) = 0 by decide), show (2 : Int32) = nI 2 from rfl, nI_add, gi (by omega) (by decide), nI_clamp (by omega), show 58 + 162 * z + 2 = 60 + 162 * z by omega, y1, y2]
    match y, hy with
    | 0, _ => exact sm_eq rfl rfl
    | 1, _ => exact sm_eq rfl rfl
  · rw [h3, h4]; exact sm_eq rfl rfl
theorem rd_taken (g : G b (A + 1) m K N L3 L2 M s) (v : Int32) : SAME (F_X10_taken n A v M) (F_X11_taken n m v s) := by
  simp only [F_X10_taken, F_X11_taken]
  rcases gst2 n v g with ⟨z, hz, z4, h1, h2, h3, h4, k, hk, hv⟩ | ⟨h3, h4⟩
  · rw [h3, h4]
    simp only [Option.bind_some]
    subst hv
    match k, hk with
    | 0, _ => exact sm_eq rfl (congrArg some (G_rd g (gd_2 0 (by decide)).2.2.1))
    | 1, _ => exact sm_eq rfl (congrArg some (G_rd g (gd_2 1 (by decide)).2.2.1))
  · rw [h3, h4]; exact sm_eq rfl rfl
theorem rd_longest (g : G b (A + 1) m K N L3 L2 M s) (v : Int32) : SAME (F_X10_longest n A v M) (F_X11_longest n m v s) := by
  simp only [F_X10_longest, F_X11_longest]
  rcases gst2 n v g with ⟨z, hz, z4, h1, h2, h3, h4, k, hk, hv⟩ | ⟨h3, h4⟩
  · rw [h3, h4]
    simp only [Option.bind_some]
    subst hv
    match k, hk with
    | 0, _ => exact sm_eq rfl (congrArg some (G_rd g (gd_2 0 (by decide)).2.2.2.1))
    | 1, _ => exact sm_eq rfl (congrArg some (G_rd g (gd_2 1 (by decide)).2.2.2.1))
  · rw [h3, h4]; exact sm_eq rfl rfl
theorem rd_pendingFor (g : G b (A + 1) m K N L3 L2 M s) (v w : Int32) : SAME (F_X10_pendingFor n A v w M) (F_X11_pendingFor n m v w s) := by
  simp only [F_X10_pendingFor, F_X11_pendingFor, F_X10_isVector, F_X0_awaits, F_X11_sinceOf]
  rcases gst2 n v g with ⟨z, hz, z4, h1, h2, h3, h4, k, hk, hv⟩ | ⟨h3, h4⟩
  · rw [h3, h4, h1, h2, c_within, m_isIn]
    simp only [Option.bind_some]
    rw [if_neg (show ¬ (1 : Int32) = 0 by decide), if_neg (show ¬ (1 : Int32) = 0 by decide)]
    rcases in_c w 15 (by decide) 15 rfl with h | ⟨h, j, hj, rfl⟩
    · rw [h]; exact sm_eq rfl rfl
    · have e1 := G_rd g (gd_g z z4).1
      have hS : gq_S (A + 1) M (s (m + 1)) := G_q g 2 (by decide)
      rw [h, if_neg (show ¬ (1 : Int32) = 0 by decide), if_neg (show ¬ (1 : Int32) = 0 by decide), nI_add0, gi (k := 58 + 162 * z) (by omega) (by decide), nI_clamp (show 58 + 162 * z < 2 ^ 31 by omega), e1, c_has n _ (show j < 32 by omega), m_has n _ (show j < 32 by omega)]
      simp only [Option.bind_some]
      cases hb : bt (M (A + 1 + gg_c z) 2) j
      · exact sm_eq rfl rfl
      · have e2 := hS z j z4 (by omega) (by rw [e1]; exact hb)
        have e3 : s (m + 1) 3 = M (A + 1) 7 := G_rd g (i := 3) (c := 0) (j := 7) (by decide +kernel)
        rw [if_pos rfl, if_pos (show ¬ (1 : Int32) = 0 by decide), if_pos (show ¬ (1 : Int32) = 0 by decide), show (146 : Int32) = nI 146 from rfl, nI_add, nI_add, gi (k := j) (by omega) (by decide), gi (k := 58 + 162 * z + 146 + j) (by omega) (by decide), nI_clamp (show j < 2 ^ 31 by omega), nI_clamp (show 58 + 162 * z + 146 + j < 2 ^ 31 by omega), show 58 + 162 * z + 146 + j = 204 + 162 * z + j by omega, e2, e3, Nat.add_assoc (A + 1)]
        exact sm_eq rfl rfl
  · rw [h3, h4]; exact sm_eq rfl rfl
theorem rd_clock (hn : 1000 ≤ n) (g : G b (A + 1) m K N L3 L2 M s) (v : Int32) : SAME (F_X10_clock n A v M) (F_X11_clock n m v s) := by
  obtain ⟨h, hh, h5, h15⟩ := G_hand g
  have e3 : s (m + 1) 3 = M (A + 1) 7 := G_rd g (i := 3) (c := 0) (j := 7) (by decide +kernel)
  simp only [F_X10_clock, F_X11_clock, c_within, m_isIn, Option.bind_some]
  rcases in_c v 2 (by decide) 2 rfl with h' | ⟨h', k, hk, rfl⟩
  · rw [h']; exact sm_eq rfl rfl
  · rw [h', if_neg (show ¬ (1 : Int32) = 0 by decide), if_neg (show ¬ (1 : Int32) = 0 by decide), c_clock hh h5, m_clock hn g hh h5 hk, e3]
    exact sm_eq rfl rfl
theorem rd_free (hn : 1000 ≤ n) (g : G b (A + 1) m K N L3 L2 M s) : SAME (F_X10_free n A M) (F_X11_free n m s) := by
  obtain ⟨y, h1, h2⟩ := c_free (n := n) hn (G_ht g)
  simp only [F_X10_free, F_X11_free, G_free hn g, show F_X4_framesLedTo n (A + 2) M = some y from h1, h2, Option.bind_some]
  exact sm_eq rfl rfl
end RD1
