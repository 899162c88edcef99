/-! ===== folded ahead ===== -/
theorem LZ_cg {h i : Nat} {ν ν' : Nat → Int32} (h1 : ν' (754 + 2 * i) = ν (754 + 2 * i)) (h2 : ν' (331 + 162 * h + 2 * i) = ν (331 + 162 * h + 2 * i)) (h3 : ν' (332 + 162 * h + 2 * i) = ν (332 + 162 * h + 2 * i)) (h4 : ν' 27 = ν 27) (h5 : ∀ q, q < 16 → ν' (707 + 2 * q) = ν (707 + 2 * q)) (h6 : ν (331 + 162 * h + 2 * i) = -1 ∨ ∃ q, q ≤ 15 ∧ ν (331 + 162 * h + 2 * i) = nI q) : LZ h ν' i = LZ h ν i := by
  unfold LZ gr_2
  have hq : (ν (331 + 162 * h + 2 * i)).toNatClampNeg < 16 := by
    rcases h6 with c | ⟨q, hq, c⟩
    · rw [c]; decide
    · rw [c, nI_clamp (by omega)]; omega
  rw [h1, h2, h3, h4, h5 _ hq]
section AHEAD
variable {b e m n h : Nat} {K N : gw_M} {L3 L2 L : List Nat} {μ s : gw_M}
theorem m_faFull (hG : G b e m K N L3 L2 μ s) (hh : h < 3) (h5 : μ e 5 = nI h) (hfull : ¬ s (m + 1) 23 < s (m + 1) 4) (v : Int32) : ∀ (d k f : Nat), k + d = 16 → d < f → F_X11_foldAhead_8 n m f v (nI k) s = (F_X11_dealOut n m s).bind (fun (μ_3 : gw_M) => some (v, μ_3)) := by
  intro d
  induction d with
  | zero =>
    intro k f hk hf
    obtain ⟨f, rfl⟩ : ∃ z, f = z + 1 := ⟨f - 1, by omega⟩
    have : k = 16 := by omega
    subst this
    rw [F_X11_foldAhead_8, if_pos (by decide)]
  | succ d ih =>
    intro k f hk hf
    obtain ⟨f, rfl⟩ : ∃ z, f = z + 1 := ⟨f - 1, by omega⟩
    rw [F_X11_foldAhead_8, if_neg (by rw [show (16 : Int32) = nI 16 from rfl]; exact nI_ge (by omega) (by omega)), m_lz hG hh h5 (show k < 16 by omega), Option.bind_some, if_neg hfull]
    simp only [F_X11_foldAhead_49, gw_let, nI_1, ite_self]
    exact ih (k + 1) f (by omega) (by omega)
theorem sim_fa (hn : 1000 ≤ n) (hh : h < 3) {R l0 : Nat} (hlR : l0 ≤ R) (hR : R ≤ 16) : ∀ (d k f1 f2 c b : Nat) (μ s : gw_M) (L3 : List Nat) (Y : Int32), k + d = 16 → d < f1 → d < f2 → b + d < 2 ^ 28 → G b e m K N L3 L2 μ s → μ e 5 = nI h → s (m + 1) 4 = nI R → L3.length = l0 + c → (∀ i, k ≤ i → i < 16 → bt Y i = LZ h (s (m + 1)) i) → ∃ c' μ' s', F_X3_foldLazyPages_23 n e f1 Y (nI (R - l0)) (nI c) (nI k) μ = some (nI c', μ') ∧ F_X11_foldAhead_8 n m f2 (nI c) (nI k) s = (F_X11_dealOut n m s').bind (fun (μ_3 : gw_M) => some (nI c', μ_3)) ∧ Gs (b + d) e m K N μ' s' := by
  intro d
  induction d with
  | zero =>
    intro k f1 f2 c b μ s L3 Y hk hf1 hf2 hb hG h5 h4 hlen hY
    obtain ⟨f1, rfl⟩ : ∃ z, f1 = z + 1 := ⟨f1 - 1, by omega⟩
    obtain ⟨f2, rfl⟩ : ∃ z, f2 = z + 1 := ⟨f2 - 1, by omega⟩
    have : k = 16 := by omega
    subst this
    refine ⟨c, μ, s, ?_, ?_, ⟨_, _, hG⟩⟩
    · rw [F_X3_foldLazyPages_23, if_pos (by decide)]
    · rw [F_X11_foldAhead_8, if_pos (by decide)]
  | succ d ih =>
    intro k f1 f2 c b μ s L3 Y hk hf1 hf2 hb hG h5 h4 hlen hY
    obtain ⟨f1, rfl⟩ : ∃ z, f1 = z + 1 := ⟨f1 - 1, by omega⟩
    obtain ⟨l1, l2, l3, l4, l5, l6⟩ := G_L3 hG
    rw [F_X3_foldLazyPages_23, if_neg (by rw [show (16 : Int32) = nI 16 from rfl]; exact nI_ge (by omega) (by omega))]
    by_cases hst : R - l0 ≤ c
    · rw [if_pos (nI_le (by omega) (by omega))]
      refine ⟨c, μ, s, rfl, m_faFull hG hh h5 ?_ (nI c) (d + 1) k f2 (by omega) (by omega), ⟨_, _, G_mono hG (by omega) hb⟩⟩
      rw [l4, h4]
      exact nI_nlt (by omega) (by omega)
    · obtain ⟨f2, rfl⟩ : ∃ z, f2 = z + 1 := ⟨f2 - 1, by omega⟩
      have hYk := hY k (by omega) (by omega)
      rw [if_neg (nI_ge (by omega) (by omega)), c_has n Y (show k < 32 by omega), Option.bind_some, F_X11_foldAhead_8, if_neg (show ¬ (16 : Int32) ≤ nI k by rw [show (16 : Int32) = nI 16 from rfl]; exact nI_ge (by omega) (by omega)), m_lz hG hh h5 (show k < 16 by omega), Option.bind_some, hYk]
      simp only [F_X3_foldLazyPages_53, F_X11_foldAhead_49, gw_let, nI_1]
      cases hlz : LZ h (s (m + 1)) k
      · rw [if_neg Bool.false_ne_true, if_pos rfl, if_pos rfl]
        obtain ⟨c', μ', s', z1, z2, L3', L2', z3⟩ := ih (k + 1) f1 f2 c b μ s L3 Y (by omega) (by omega) (by omega) (by omega) hG h5 h4 hlen (fun i h1 h2 => hY i (by omega) h2)
        exact ⟨c', μ', s', z1, z2, _, _, G_mono z3 (by omega) hb⟩
      · rw [if_pos rfl, if_neg (show ¬ (1 : Int32) = 0 by decide), if_neg (show ¬ (1 : Int32) = 0 by decide), l4, h4, if_pos (nI_lt (by omega) (by omega))]
        obtain ⟨t1, t2, t⟩ := G_t1 hG hh (show k < 16 by omega)
        unfold LZ at hlz
        simp only [Bool.and_eq_true, decide_eq_true_eq] at hlz
        obtain ⟨z0, z1, z2⟩ := hlz
        obtain ⟨q, hq, tq⟩ : ∃ q, q ≤ 15 ∧ s (m + 1) (331 + 162 * h + 2 * k) = nI q := by
          rcases t with t | t
          · exact absurd t z1
          · exact t
        rw [tq, nI_clamp (by omega)] at z2
        obtain ⟨f, hf, w1, w2⟩ : ∃ f, f ≤ 9 ∧ μ (e + 3) q = nI f ∧ s (m + 1) (706 + 2 * q) = nI f := by
          rcases G_sh hG (show q < 16 by omega) with ⟨-, w⟩ | w
          · exfalso
            apply z2
            have := (G_q hG 0 (by decide) q (by omega)).1 w
            unfold gr_2
            rw [this]
            have a0 : ∀ x : Int32, x &&& 0 = 0 := by
              intro x
              apply b_ext
              intro i hi
              rw [b_and, b_0, Bool.and_false]
            split
            · rw [show (0 : Int32) &&& (-3) = 0 by decide]
              exact a0 _
            · exact a0 _
          · exact w
        have hkL : k ∉ L3 := by
          intro c
          apply ((l2 k).mp c).2
          rw [← G_rd hG (gd_t2 k (by omega)).2.2.1]
          exact z0
        obtain ⟨μ1, s1, a1, a2, a3, a4, a5⟩ := sim_fold0 (n := n) hG (by omega) (show k < 16 by omega) hkL hh (G_s15 hG h5) (show q < 16 by omega) hf (t1.symm.trans tq) w1 (by rw [h4, nI_toInt (by omega)]; omega) n (by omega)
        have fr : ∀ a j, ¬ (a = e + 8 ∧ j = 3) → ¬ (a = e + 9 ∧ j = k) → ¬ (a = e + 10 ∧ j = k) → ¬ (a = e + 11 ∧ j = k) → μ1 a j = μ a j := by
          intro a j q1 q2 q3 q4
          rw [a5]
          unfold cput
          rw [up_ne (by omega), up_ne (by omega), up_ne (by omega), up_ne (by omega)]
        have h51 : μ1 e 5 = nI h := by rw [fr _ _ (by omega) (by omega) (by omega) (by omega)]; exact h5
        have h41 : s1 (m + 1) 4 = nI R := by
          rw [G_rd a3 (i := 4) (c := 0) (j := 2) (by decide +kernel), fr _ _ (by omega) (by omega) (by omega) (by omega), ← G_rd hG (i := 4) (c := 0) (j := 2) (by decide +kernel)]
          exact h4
        obtain ⟨c', μ', s', y1, y2, L3', L2', y3⟩ := ih (k + 1) f1 f2 (c + 1) (b + 1) μ1 s1 (L3 ++ [k]) Y (by omega) (by omega) (by omega) (by omega) a3 h51 h41 (by rw [List.length_append, hlen]; rfl) (fun i h1 h2 => by
          rw [hY i (by omega) h2]
          obtain ⟨u1, u2, u3⟩ := G_t1 hG hh h2
          obtain ⟨v1, v2, v3⟩ := G_t1 a3 hh h2
          refine (LZ_cg ?_ ?_ ?_ ?_ (fun q hq => ?_) u3).symm
          · rw [G_rd a3 (gd_t2 i h2).2.2.1, G_rd hG (gd_t2 i h2).2.2.1, fr _ _ (by omega) (by omega) (by omega) (by omega)]
          · rw [v1, u1, fr _ _ (by omega) (by omega) (by omega) (by omega)]
          · rw [v2, u2, fr _ _ (by omega) (by omega) (by omega) (by omega)]
          · rw [G_rd a3 (i := 27) (c := 1) (j := 3) (by decide +kernel), G_rd hG (i := 27) (c := 1) (j := 3) (by decide +kernel), fr _ _ (by omega) (by omega) (by omega) (by omega)]
          · rw [G_rd a3 (gd_t2 q hq).2.1, G_rd hG (gd_t2 q hq).2.1, fr _ _ (by omega) (by omega) (by omega) (by omega)])
        refine ⟨c', μ', s', ?_, ?_, _, _, by rw [show b + (d + 1) = b + 1 + d by omega]; exact y3⟩
        · rw [a1, Option.bind_some]
          exact y1
        · have a2' : F_X11_fold n m (nI k) s = some s1 := a2
          rw [a2', Option.bind_some]
          exact y2
theorem sim_foldAhead (hn : 1000 ≤ n) (hG : G b e m K N L3 L2 μ s) (hb : b + 16 < 2 ^ 28) : ∃ r μ' s', F_X3_foldLazyPages n e μ = some (r, μ') ∧ F_X11_foldAhead_8 n m n 0 0 s = (F_X11_dealOut n m s').bind (fun (μ_3 : gw_M) => some (r, μ_3)) ∧ Gs (b + 16) e m K N μ' s' := by
  obtain ⟨h, hh, h5, h15⟩ := G_hand hG
  obtain ⟨y, y1, y2⟩ := c_lazy (n := n) hn hG hh h5
  obtain ⟨l1, l2, l3, l4, l5, l6⟩ := G_L3 hG
  have h4c : s (m + 1) 4 = μ e 2 := G_rd hG (i := 4) (c := 0) (j := 2) (by decide +kernel)
  obtain ⟨R, hR, hR1⟩ : ∃ k, k ≤ 16 ∧ μ e 2 = nI k := by
    have h1 := G_rg hG (i := 4) (c := 0) (j := 2) (by decide +kernel)
    unfold gq_r at h1
    rw [show gd_q 4 = (1, 16, 0) by decide +kernel] at h1
    exact nI_of_rg (v := μ (e + 0) 2) (n := 16) (by have := h1.1; simp only at this; omega) (by have := h1.2; simp only at this; omega)
  have hle := (G_q hG 8 (by decide)).2
  rw [h4c, hR1, nI_toInt (by omega)] at hle
  obtain ⟨c', μ', s', z1, z2, z3⟩ := sim_fa (n := n) (e := e) (m := m) (L2 := L2) hn hh (R := R) (l0 := L3.length) (by omega) hR 16 0 n n 0 b μ s L3 y rfl (by omega) (by omega) hb hG h5 (h4c.trans hR1) rfl (fun i _ hi => by
    rw [y2 i (by omega)]
    simp [hi])
  refine ⟨nI c', μ', s', ?_, z2, z3⟩
  simp only [F_X3_foldLazyPages, y1, Option.bind_some, c_sizeF hn hG, gw_let, hR1]
  rw [pk_sub (by omega)]
  exact z1
end AHEAD
