/-! ===== on trial (2): roomiest ===== -/
section TR2
variable {b A m n : Nat} {M s : gw_M}
def r_fin (rc : Int32 → Int32 → Int32 → Int32 → gw_M → Option (Int32 × gw_M)) (n A : Nat) (v1 v2 v3 v4 : Int32) (μ : gw_M) : Option (Int32 × gw_M) := if v2 = (-1) then F_X10_roomiest_99 rc n A v1 v4 μ else (if v3 ≤ (μ (A + 199) 0) then F_X10_roomiest_115 rc n A v1 v2 v3 v4 μ else F_X10_roomiest_99 rc n A v1 v4 μ)
theorem tr_r59 (hn : 1000 ≤ n) {N : Nat} (hN : N ≤ 100) {w : Int32} {K Nn : gw_M} : ∀ (d k f1 f2 b0 t : Nat) (μ s : gw_M), k + d = N → d < f1 → d < f2 → b0 + 40 * d + 1 < 2 ^ 28 → Gs b0 (A + 169) m K Nn μ s → μ (A + 169) 7 = nI t → t + d ≤ 99999 → ∃ μ' s', (∀ (rc : Int32 → Int32 → Int32 → Int32 → gw_M → Option (Int32 × gw_M)) (v2 v3 v4 : Int32), F_X10_roomiest_59 rc n A f1 (nI N) v2 v3 v4 (nI k) μ = r_fin rc n A (nI N) v2 v3 v4 μ') ∧ F_X11_seenBy_23 n m f2 (nI N) w (nI k) s = (F_X11_bringBack n m s').bind (fun (μ_4 : gw_M) => some (s' (m + 1) 5 - w, μ_4)) ∧ Gs (b0 + 40 * d) (A + 169) m K Nn μ' s' := by
  intro d
  induction d with
  | zero =>
    intro k f1 f2 b0 t μ s hk hf1 hf2 hb g h7 ht
    obtain ⟨f1, rfl⟩ : ∃ z, f1 = z + 1 := ⟨f1 - 1, by omega⟩
    obtain ⟨f2, rfl⟩ : ∃ z, f2 = z + 1 := ⟨f2 - 1, by omega⟩
    obtain rfl : k = N := by omega
    refine ⟨μ, s, ?_, ?_, g⟩
    · intro rc v2 v3 v4
      rw [F_X10_roomiest_59, if_pos (nI_le (Nat.le_refl k) (by omega))]
      rfl
    · rw [F_X11_seenBy_23, if_pos (nI_le (Nat.le_refl k) (by omega))]
      rfl
  | succ d ih =>
    intro k f1 f2 b0 t μ s hk hf1 hf2 hb g h7 ht
    obtain ⟨f1, rfl⟩ : ∃ z, f1 = z + 1 := ⟨f1 - 1, by omega⟩
    obtain ⟨f2, rfl⟩ : ∃ z, f2 = z + 1 := ⟨f2 - 1, by omega⟩
    obtain ⟨μ1, s1, a1, a2, a3, a4⟩ := sim_goOn (n := n) hn g (by omega) (by omega) h7
    obtain ⟨μ', s', z1, z2, z4⟩ := ih (k + 1) f1 f2 (b0 + 40) (t + 1) μ1 s1 (by omega) (by omega) (by omega) (by omega) a3 a4 (by omega)
    refine ⟨μ', s', ?_, ?_, by rw [show b0 + 40 * (d + 1) = b0 + 40 + 40 * d by omega]; exact z4⟩
    · intro rc v2 v3 v4
      rw [F_X10_roomiest_59, if_neg (nI_ge (by omega) (by omega)), a1, Option.bind_some]
      simp only [gw_let, nI_1]
      exact z1 rc v2 v3 v4
    · rw [F_X11_seenBy_23, if_neg (nI_ge (by omega) (by omega)), a2, Option.bind_some]
      simp only [gw_let, nI_1]
      exact z2
/-- one room on trial -/
theorem tr_one (hn : 1000 ≤ n) (hb : b + 8100 < 2 ^ 28) (h : RR b (A + 1) M (s (m + 1))) {N t r : Nat} (hN : N ≤ 100) (ht : t + N ≤ 99999) (h3 : s (m + 1) 3 = nI t) (r1 : 1 ≤ r) (r2 : r ≤ 16) {c5 : Nat} (h5 : s (m + 1) 5 = nI c5) : ∃ x μ2 s3, x ≤ b + 4000 ∧ (∀ (rc : Int32 → Int32 → Int32 → Int32 → gw_M → Option (Int32 × gw_M)) (v2 v3 : Int32), ((F_X3_copyFrom n (A + 169) (A + 1) M).bind (fun (μ_3 : gw_M) => (F_X8_dropAll n (A + 177) μ_3).bind (fun (μ_7 : gw_M) => gw_let (gw_up μ_7 (A + 169) 2 (nI r)) (fun (μ_10 : gw_M) => F_X10_roomiest_59 rc n A n (nI N) v2 v3 (nI r) 0 μ_10)))) = r_fin rc n A (nI N) v2 v3 (nI r) μ2) ∧ μ2 (A + 199) 0 = nI x ∧ F_X11_seenBy n m (nI r) (nI N) s = some (nI x - nI c5, s3) ∧ (∀ x y, x < A + 169 ∨ A + 251 ≤ x → μ2 x y = M x y) ∧ ∀ x y, x ≠ m + 3 → s3 x y = s x y := by
  obtain ⟨μ1, s1, c1, c2, ⟨L3, L2, g1⟩, c4, c5', c6⟩ := tr_start (n := n) (s := s) (m := m) hn h
  obtain ⟨μd, d1, d2⟩ := c_dropAll (n := n) (e := A + 169) (μ := μ1)
  obtain ⟨l1, l2⟩ : gq_L (s1 (m + 1)) 754 786 23 L3 ∧ gq_O b (A + 169) 8 μ1 L3 := G_q g1 4 (by decide)
  obtain ⟨su, u1, u2⟩ := m_unfoldAll (n := n) hn (G_q g1 0 (by decide)) l1
  have gu := sim_uf g1 u2 d2
  have hL : L3.filter (fun p => !(fun _ => true) p) = [] := by simp
  rw [hL] at gu
  have gr := G_room gu r1 r2 (Nat.zero_le r)
  obtain ⟨f, hf⟩ : ∃ f, n = f + 1 := ⟨n - 1, by omega⟩
  have hro : F_X11_roomNow n m (nI r) su = some (gw_up su (m + 1) 4 (nI r)) := by
    obtain ⟨-, -, -, q4, -, -⟩ := G_L3 gu
    simp only [F_X11_roomNow, gw_let]
    rw [show F_X11_roomNow_7 n m n (nI r) (gw_up su (m + 1) 4 (nI r)) = F_X11_roomNow_7 n m (f + 1) (nI r) (gw_up su (m + 1) 4 (nI r)) by rw [← hf], F_X11_roomNow_7, up_ne (by omega), q4, if_pos (show nI ([] : List Nat).length ≤ nI r from nI_le (Nat.zero_le r) (by omega))]
  have t7 : gw_up μd (A + 169) 2 (nI r) (A + 169) 7 = nI t := by
    have e1 := G_rd gr (i := 3) (c := 0) (j := 7) (by decide +kernel)
    have e2 : gw_up su (m + 1) 4 (nI r) (m + 1) 3 = nI t := by
      rw [up_ne (by omega), u2.1 _ _ (by omega), c5' _ _ (by omega), h3]
    exact e1.symm.trans e2
  have w5 : gw_up su (m + 1) 4 (nI r) (m + 1) 5 = nI c5 := by
    rw [up_ne (by omega), u2.1 _ _ (by omega), c5' _ _ (by omega), h5]
  obtain ⟨μ2, s2, z1, z2, z4⟩ := tr_r59 (n := n) (w := nI c5) hn hN N 0 n n b t (gw_up μd (A + 169) 2 (nI r)) (gw_up su (m + 1) 4 (nI r)) (by omega) (by omega) (by omega) (by omega) ⟨_, _, gr⟩ t7 (by omega)
  obtain ⟨s3, y1, y2⟩ := tr_end (n := n) hn z4 c5' c6
  obtain ⟨x, hx, x1, x2⟩ : ∃ x, x ≤ b + 40 * N ∧ μ2 (A + 169 + 30) 0 = nI x ∧ s2 (m + 1) 5 = nI x := by
    obtain ⟨K3, K2, g2⟩ := z4
    exact G_nb g2 (i := 5) (c := 30) (j := 0) (by decide +kernel) (by decide +kernel)
  refine ⟨x, μ2, s3, by omega, fun rc v2 v3 => ?_, x1, ?_, fun x y hx => by rw [Gs_out z4 x y (by omega), c4 x y (by omega)], y2⟩
  · rw [c1, Option.bind_some, show F_X8_dropAll n (A + 177) μ1 = some μd from d1, Option.bind_some]
    exact z1 rc v2 v3 (nI r)
  · rw [F_X11_seenBy, c2, Option.bind_some, u1, Option.bind_some, hro, Option.bind_some]
    simp only [gw_let]
    rw [w5, show F_X11_seenBy_23 n m n (nI N) (nI c5) 0 (gw_up su (m + 1) 4 (nI r)) = _ from z2, y1, Option.bind_some, x2]
theorem tr_r24 (hn : 1000 ≤ n) (hb : b + 8100 < 2 ^ 28) (h : RR b (A + 1) M (s (m + 1))) {N t : Nat} (hN : N ≤ 100) (ht : t + N ≤ 99999) (h3 : s (m + 1) 3 = nI t) {c5 : Nat} (h5 : s (m + 1) 5 = nI c5) (hc5 : c5 ≤ b) : ∀ (d k f1 f2 j x : Nat) (μ s2 : gw_M), k + d = 17 → 1 ≤ k → d < f1 → d < f2 → j ≤ 16 → x ≤ b + 4000 → (∀ x y, x < A + 169 ∨ A + 251 ≤ x → μ x y = M x y) → (∀ x y, x ≠ m + 3 → s2 x y = s x y) → ∃ r μ' s', F_X10_roomiest_19 n A f1 (nI N) (nI j) (nI x) (nI k) μ = some (r, μ') ∧ F_X11_roomiest_24 n m f2 (nI N) (nI j) (nI x - nI c5) (nI k) s2 = some (r, s') ∧ (∀ x y, x < A + 169 ∨ A + 251 ≤ x → μ' x y = M x y) ∧ ∀ x y, x ≠ m + 3 → s' x y = s x y := by
  intro d
  induction d with
  | zero =>
    intro k f1 f2 j x μ s2 hk k1 hf1 hf2 hj hx hμ hs
    obtain ⟨f1, rfl⟩ : ∃ z, f1 = z + 1 := ⟨f1 - 1, by omega⟩
    obtain ⟨f2, rfl⟩ : ∃ z, f2 = z + 1 := ⟨f2 - 1, by omega⟩
    obtain rfl : k = 17 := by omega
    rw [F_X10_roomiest_19, F_X11_roomiest_24, if_pos (by decide), if_pos (by decide)]
    exact ⟨nI j, μ, s2, rfl, rfl, hμ, hs⟩
  | succ d ih =>
    intro k f1 f2 j x μ s2 hk k1 hf1 hf2 hj hx hμ hs
    obtain ⟨f1, rfl⟩ : ∃ z, f1 = z + 1 := ⟨f1 - 1, by omega⟩
    obtain ⟨f2, rfl⟩ : ∃ z, f2 = z + 1 := ⟨f2 - 1, by omega⟩
    have hle : ¬ (16 : Int32) < nI k := by rw [show (16 : Int32) = nI 16 from rfl]; exact nI_nlt (by omega) (by omega)
    have hR : RR b (A + 1) μ (s2 (m + 1)) := RR_cg h (fun c j hc => hμ _ _ (by omega)) (fun i _ _ => hs _ _ (by omega))
    obtain ⟨y, μ2, s3, hy, q1, q2, q3, q4, q5⟩ := tr_one (n := n) hn hb hR hN ht ((hs _ _ (by omega)).trans h3) k1 (show k ≤ 16 by omega) ((hs _ _ (by omega)).trans h5)
    have μ2M : ∀ x y, x < A + 169 ∨ A + 251 ≤ x → μ2 x y = M x y := fun x y hx => by rw [q4 x y hx, hμ x y hx]
    have s3s : ∀ x y, x ≠ m + 3 → s3 x y = s x y := fun x y hx => by rw [q5 x y hx, hs x y hx]
    rw [F_X10_roomiest_19, F_X11_roomiest_24, if_neg hle, if_neg hle, q1, q3, bi_some, r_fin, if_neg (show ¬ nI j = -1 by rw [nI_m1 (by omega)]; exact id), q2]
    simp only [F_X10_roomiest_99, F_X10_roomiest_115, F_X11_roomiest_55, gw_let, nI_1, q2]
    by_cases hxy : x ≤ y
    · rw [if_pos (nI_le hxy (by omega)), if_neg (by rw [Int32.lt_iff_toInt_lt, pk_sub_toInt (by omega) (by omega), pk_sub_toInt (by omega) (by omega)]; omega)]
      exact ih (k + 1) f1 f2 j x μ2 s3 (by omega) (by omega) (by omega) (by omega) hj hx μ2M s3s
    · rw [if_neg (nI_ge (by omega) (by omega)), if_pos (by rw [Int32.lt_iff_toInt_lt, pk_sub_toInt (by omega) (by omega), pk_sub_toInt (by omega) (by omega)]; omega)]
      exact ih (k + 1) f1 f2 k y μ2 s3 (by omega) (by omega) (by omega) (by omega) (by omega) hy μ2M s3s
theorem tr_roomiest (hn : 1000 ≤ n) (hb : b + 8100 < 2 ^ 28) (hmA : A + 268 ≤ m) (g0 : Gs b (A + 1) m M s M s) (v : Int32) : ∃ r μ' s', F_X10_roomiest n A v M = some (r, μ') ∧ F_X11_roomiest n m v s = some (r, s') ∧ (∀ x y, (A ≤ x ∧ x < A + 169) ∨ m ≤ x → μ' x y = M x y) ∧ ∀ x y, x ≠ m + 3 → s' x y = s x y := by
  have hR := Gs_RR g0
  obtain ⟨L3, L2, g⟩ := g0
  simp only [F_X10_roomiest, F_X11_roomiest, F_X10_mayGo, F_X10_mayGo_28, F_X11_canGo, F_X11_canGo_26, c_within, m_isIn, Option.bind_some]
  have no : ∃ r μ' s', some ((-1 : Int32), M) = some (r, μ') ∧ some ((-1 : Int32), s) = some (r, s') ∧ (∀ x y, (A ≤ x ∧ x < A + 169) ∨ m ≤ x → μ' x y = M x y) ∧ ∀ x y, x ≠ m + 3 → s' x y = s x y := ⟨-1, M, s, rfl, rfl, fun _ _ _ => rfl, fun _ _ _ => rfl⟩
  rcases may_go g (top := 100) (by decide) v with h | ⟨h, N, t, h1, h2, h3, rfl, h5, h6, h7, -, h9⟩
  · have h' : isin v 1 100 = 0 := h
    rw [h']; exact no
  · have h' : isin (nI N) 1 100 = 1 := h
    rw [h', if_neg (show ¬ (1 : Int32) = 0 by decide), if_neg (show ¬ (1 : Int32) = 0 by decide)]
    simp only [h7, h9]
    by_cases hg : 99999 < t + N
    · rw [if_pos hg]; exact no
    · rw [if_neg hg, Option.bind_some, Option.bind_some, if_pos (show ¬ (1 : Int32) = 0 by decide), if_pos (show ¬ (1 : Int32) = 0 by decide)]
      obtain ⟨c5, hc5, -, x5⟩ := G_nb g (i := 5) (c := 30) (j := 0) (by decide +kernel) (by decide +kernel)
      obtain ⟨y, μ2, s3, hy, q1, q2, q3, q4, q5⟩ := tr_one (n := n) (r := 1) hn hb hR h2 (by omega) h6 (by decide) (by decide) x5
      obtain ⟨f, hf⟩ : ∃ f, n = f + 1 := ⟨n - 1, by omega⟩
      obtain ⟨r, μ', s', z1, z2, z3, z4⟩ := tr_r24 (n := n) hn hb hR h2 (show t + N ≤ 99999 by omega) h6 x5 hc5 15 2 f n 1 y μ2 s3 rfl (by decide) (by omega) (by omega) (by decide) hy q4 q5
      refine ⟨r, μ', s', ?_, ?_, fun x y hx => z3 x y (by omega), z4⟩
      · rw [show F_X10_roomiest_19 n A n (nI N) (-1) 0 1 M = F_X10_roomiest_19 n A (f + 1) (nI N) (-1) 0 (nI 1) M by rw [← hf]; rfl, F_X10_roomiest_19, if_neg (show ¬ (16 : Int32) < nI 1 by decide), q1, r_fin, if_pos rfl]
        simp only [F_X10_roomiest_99, F_X10_roomiest_115, gw_let, nI_1, q2]
        exact z1
      · rw [show F_X11_seenBy n m 1 (nI N) s = some (nI y - nI c5, s3) from q3, bi_some]
        exact z2
end TR2
