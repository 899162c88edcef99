/-! ===== a plain machine: the start, both sides ===== -/
section PLAIN11
variable {b A m n h : Nat} {K N M s : gw_M} {L3 L2 : List Nat}
theorem RR_G {e : Nat} {μ σ : gw_M} (h : RR b e μ (σ (m + 1))) : ∃ L3 L2, G b e m μ σ L3 L2 μ σ := by
  obtain ⟨L3, L2, g⟩ := h
  exact ⟨L3, L2, fun _ _ _ => rfl, fun _ _ _ => rfl, g⟩
/-- both sides lay the same values, whatever lies where nobody looks -/
theorem pl_vals (g : RR b (A + 1) M (s (m + 1))) (hh : h < 3) (h5 : M (A + 1) 5 = nI h) {μ σ : gw_M} (hμ : ∀ x y, x < A + 251 → μ x y = M x y) (hσ : ∀ y, σ (m + 1) y = s (m + 1) y) {p : Nat} (hp : p < 16) : F_X3_plainValue n (A + 1) (nI p) μ = some ((F_X11_plainValue n m (nI p) s).getD 0) ∧ F_X11_plainValue n m (nI p) σ = some ((F_X11_plainValue n m (nI p) s).getD 0) := by
  have go : ∀ μ' σ' : gw_M, (∀ x y, x < A + 251 → μ' x y = M x y) → (∀ y, σ' (m + 1) y = s (m + 1) y) → ∃ r, F_X3_plainValue n (A + 1) (nI p) μ' = some r ∧ F_X11_plainValue n m (nI p) σ' = some r := by
    intro μ' σ' e1 e2
    obtain ⟨K3, K2, g'⟩ := RR_G (RR_cg g (μ' := μ') (ν' := σ' (m + 1)) (fun c j hc => e1 _ _ (by omega)) (fun i _ _ => e2 i))
    exact rd_plainValue (n := n) g' hh (by rw [e1 _ _ (by omega)]; exact h5) hp
  obtain ⟨r, a1, a2⟩ := go μ s hμ (fun _ => rfl)
  obtain ⟨r', b1, b2⟩ := go M σ (fun _ _ _ => rfl) hσ
  obtain ⟨r'', c1, c2⟩ := go M s (fun _ _ _ => rfl) (fun _ => rfl)
  have e1 : r = r'' := Option.some.inj (a2.symm.trans c2)
  have e2 : r' = r'' := Option.some.inj (b1.symm.trans c1)
  rw [c2]
  exact ⟨by rw [a1, e1]; rfl, by rw [b2, e2]; rfl⟩
theorem u1_in : (∀ y < 24, u1 (fun _ _ => false) 0 3 y = true ∧ u1 (fun _ _ => false) 0 4 y = true ∧ u1 (fun _ _ => false) 0 5 y = true) ∧ (∀ y < 16, u1 (fun _ _ => false) 0 8 y = true ∧ u1 (fun _ _ => false) 0 9 y = true) ∧ u1 (fun _ _ => false) 0 2 3 = true ∧ u1 (fun _ _ => false) 0 2 4 = true ∧ u1 (fun _ _ => false) 0 0 3 = true ∧ u1 (fun _ _ => false) 0 0 4 = true ∧ u1 (fun _ _ => false) 0 0 5 = true := by decide +kernel
theorem pl_start (hn : 1000 ≤ n) (hmA : A + 268 ≤ m) (g0 : Gs b (A + 1) m M s M s) (v : Int32) : ∃ h c μ0 s0, h < 3 ∧ F_X6_startFrom n (A + 251) (A + 1) M = some μ0 ∧ F_X11_layPlain n m v s = F_X11_layPlain_116 n m n v (nI (58 + 162 * (1 + h))) 0 s0 ∧ PL (A + 251) m h c μ0 s0 ∧ FP (A + 251) m M s μ0 s0 := by
  have gR' := Gs_RR g0
  obtain ⟨L3, L2, g⟩ := g0
  obtain ⟨h, hh, h5, h15⟩ := G_hand g
  obtain ⟨c, hc, c1, c2⟩ := G_many g (g := 1 + h) (by omega)
  obtain ⟨k1, k2, k4, k5, k6, k7, k8⟩ := u1_in
  have gc : gg_c (1 + h) = 38 + 15 * h := by unfold gg_c; rw [if_neg (by omega)]; omega
  have ho := RR_open gR' (1 + h) (by omega)
  rw [gc] at ho
  obtain ⟨μ1, f1, f2⟩ := cp_X1 (n := n) (a := A + 252) (b := A + 38 + 15 * h) (w := 15) (U := fun _ _ => false) (μ := M) (μ0 := M) (fun x y => by simp) (by omega) (k := 0) (by omega) (by rw [show A + 38 + 15 * h + (0 + 1) = A + 1 + (38 + 15 * h) by omega]; exact ho)
  have cpy : ∀ z y, z < 15 → u1 (fun _ _ => false) 0 z y = true → μ1 (A + 252 + z) y = M (A + 1 + (37 + 15 * h + z)) y := by
    intro z y hz hu
    rw [f2, if_pos ⟨by omega, by rw [show A + 252 + z - (A + 252) = z by omega]; exact hu⟩, show A + 252 + z - (A + 252) = z by omega, show A + 38 + 15 * h + z = A + 1 + (37 + 15 * h + z) by omega]
  have out1 : ∀ x y, x < A + 252 ∨ A + 267 ≤ x → μ1 x y = M x y := fun x y hx => by rw [f2, if_neg (by omega)]
  obtain ⟨μ2, q1, q2⟩ := c_st13 (A := A) (n := n) (M := M) (V := fun p => (F_X11_plainValue n m (nI p) s).getD 0) (fun μ p hμ hp => (pl_vals gR' hh h5 hμ (fun _ => rfl) hp).1) 16 0 n μ1 rfl (by omega) (fun x y hx => out1 x y (by omega))
  obtain ⟨s1, r1, r2⟩ := m_lp8 (m := m) (n := n) (s0 := s) (V := fun p => (F_X11_plainValue n m (nI p) s).getD 0) (v1 := v) (v2 := nI (58 + 162 * (1 + h))) (fun σ p hσ hp => (pl_vals (μ := M) gR' hh h5 (fun _ _ _ => rfl) (fun y => hσ _ y (by omega)) hp).2) 16 0 n s rfl (by omega) (fun _ _ _ => rfl)
  obtain ⟨s2, t1, t2⟩ := m_lp33 (m := m) (n := n) (v1 := v) (B := 58 + 162 * (1 + h)) (by omega) 32 0 n s1 rfl (by omega)
  have hs1 : ∀ y, s1 (m + 1) y = s (m + 1) y := fun y => by rw [r2, if_neg (by omega)]
  rw [hs1, hs1, hs1] at t1
  obtain ⟨s0, e0⟩ : ∃ s0, s0 = gw_up (gw_up (gw_up (gw_up (gw_up s2 m 5 0) m 6 (-1)) m 7 (s (m + 1) (58 + 162 * (1 + h) + 5))) m 8 (s (m + 1) (58 + 162 * (1 + h) + 144))) m 9 (s (m + 1) (58 + 162 * (1 + h) + 145)) := ⟨_, rfl⟩
  rw [← e0] at t1
  have o0 : ∀ x y, x ≠ m → s0 x y = s2 x y := fun x y hx => by rw [e0, up_ne (by omega), up_ne (by omega), up_ne (by omega), up_ne (by omega), up_ne (by omega)]
  have m5 : s0 m 5 = 0 := by rw [e0, up_ne (by omega), up_ne (by omega), up_ne (by omega), up_ne (by omega), up_eq ⟨rfl, rfl⟩]
  have m6 : s0 m 6 = -1 := by rw [e0, up_ne (by omega), up_ne (by omega), up_ne (by omega), up_eq ⟨rfl, rfl⟩]
  have m7 : s0 m 7 = s (m + 1) (63 + 162 * (1 + h)) := by rw [e0, up_ne (by omega), up_ne (by omega), up_eq ⟨rfl, rfl⟩, show 58 + 162 * (1 + h) + 5 = 63 + 162 * (1 + h) by omega]
  have m8 : s0 m 8 = s (m + 1) (364 + 162 * h) := by rw [e0, up_ne (by omega), up_eq ⟨rfl, rfl⟩, show 58 + 162 * (1 + h) + 144 = 364 + 162 * h by omega]
  have m9 : s0 m 9 = s (m + 1) (365 + 162 * h) := by rw [e0, up_eq ⟨rfl, rfl⟩, show 58 + 162 * (1 + h) + 145 = 365 + 162 * h by omega]
  have n1 : ∀ y, s0 (m + 1) y = s (m + 1) y := fun y => by rw [o0 _ _ (by omega), t2, if_neg (by omega), hs1]
  have n5 : ∀ y, y < 32 → s0 (m + 5) y = s (m + 1) (299 + 162 * h + y) := fun y hy => by rw [o0 _ _ (by omega), t2, if_pos (by omega), hs1, show 58 + 162 * (1 + h) + 79 + y = 299 + 162 * h + y by omega]
  have n4 : ∀ y, y < 16 → s0 (m + 4) y = (F_X11_plainValue n m (nI y) s).getD 0 := fun y hy => by rw [o0 _ _ (by omega), t2, if_neg (by omega), r2, if_pos (by omega)]
  have mu : ∀ z y, z < 15 → u1 (fun _ _ => false) 0 z y = true → μ2 (A + 252 + z) y = M (A + 1 + (37 + 15 * h + z)) y := fun z y hz hu => by rw [q2, if_neg (by omega), if_neg (by omega), if_neg (by omega)]; exact cpy z y hz hu
  refine ⟨h, c, μ2, s0, hh, ?_, ?_, ⟨⟨hc, ?_, ?_⟩, fun k hk => ?_, ?_, ?_, ⟨?_, ?_⟩, ?_, fun p hp => ?_, fun p hp => ?_, ?_, ?_⟩, fun x y hx => ?_, fun x y h1 h2 h3 => ?_⟩
  · simp only [F_X6_startFrom, c_inHand hh h5, Option.bind_some]
    have f1' : F_X1_copyFrom n (A + 251 + 1) (A + 1 + 37 + 15 * h) M = some μ1 := by
      rw [show A + 1 + 37 + 15 * h = A + 38 + 15 * h + 0 by omega]
      exact f1
    rw [f1', Option.bind_some]
    exact q1
  · simp only [F_X11_layPlain, (m_guestAt (n := n) (s := s) (m := m) (gu := 2) (Or.inr ⟨rfl, h, hh, h15, rfl⟩)).1, Option.bind_some]
    have r1' : F_X11_layPlain_8 n m n v (nI (58 + 162 * (1 + h))) 0 s = _ := r1
    have t1' : F_X11_layPlain_33 n m n v (nI (58 + 162 * (1 + h))) 0 s1 = _ := t1
    rw [r1', t1']
  · rw [show A + 251 + 3 = A + 252 + 2 by omega, mu 2 3 (by omega) k4, show 37 + 15 * h + 2 = 38 + 15 * h + 1 by omega, ← gc]; exact c1
  · rw [n1]; exact c2
  · have hP := (G_q g 1 (by decide) (1 + h) (by omega)).2 k (by rw [c2, nI_toInt (by omega)]; omega) (by omega)
    obtain ⟨p1, p2, p3, p4⟩ := hP
    obtain ⟨w1, w2, w3⟩ := k1 k (by omega)
    rw [gc] at p1 p2 p3
    have x1 := mu 3 k (by omega) w1
    have x2 := mu 4 k (by omega) w2
    have x3 := mu 5 k (by omega) w3
    rw [show 37 + 15 * h + 3 = 38 + 15 * h + 2 by omega] at x1
    rw [show 37 + 15 * h + 4 = 38 + 15 * h + 3 by omega] at x2
    rw [show 37 + 15 * h + 5 = 38 + 15 * h + 4 by omega] at x3
    rw [show A + 251 + 4 = A + 252 + 3 by omega, show A + 251 + 5 = A + 252 + 4 by omega, show A + 251 + 6 = A + 252 + 5 by omega, x1, x2, x3, n1, n1, n1, ← p1, ← p2, ← p3]
    exact ⟨rfl, rfl, rfl, p4⟩
  · rw [show A + 251 + 1 = A + 252 + 0 by omega, mu 0 3 (by omega) k6, n1]
    exact (G_rd g (gd_i3 h hh).1).symm
  · have h1 := (G_q g 1 (by decide) (1 + h) (by omega)).1
    obtain ⟨p, hp, p1, p2⟩ := G_n g (gd_g (1 + h) (by omega)).2.2.2.2.2.1 (n := 23) (gd_gq (1 + h) (by omega)).2.2.2.1
    refine ⟨p, ?_, ?_, by rw [m7]; exact p2⟩
    · rw [p2, c2, nI_toInt (by omega), nI_toInt (by omega)] at h1
      rcases h1 with h1 | h1
      · exact Or.inr (nI_inj (b := 0) (by omega) (by decide) h1)
      · exact Or.inl (by omega)
    · rw [show A + 251 + 3 = A + 252 + 2 by omega, mu 2 4 (by omega) k5, show 37 + 15 * h + 2 = 38 + 15 * h + 1 by omega, ← gc]; exact p1
  · rw [show A + 251 + 1 = A + 252 + 0 by omega, mu 0 4 (by omega) k7, m8]
    exact (G_rd g (gd_i3 h hh).2.1).symm
  · rw [m8]
    rcases G_n1 g (gd_i3 h hh).2.1 (n := 15) (gd_i3 h hh).2.2.2.2.1 with ⟨-, w⟩ | ⟨q, hq, -, w⟩
    · exact Or.inl w
    · exact Or.inr ⟨q, hq, w⟩
  · rw [show A + 251 + 1 = A + 252 + 0 by omega, mu 0 5 (by omega) k8, m9]
    exact (G_rd g (gd_i3 h hh).2.2.1).symm
  · obtain ⟨w1, w2, w3, -⟩ := G_t0 g hh hp
    have w4 := (G_q g 0 (by decide) p hp).2.2 h 0 hh (by decide)
    rw [show 299 + 162 * h + 32 * 0 + 2 * p = 299 + 162 * h + 2 * p by omega, show 300 + 162 * h + 32 * 0 + 2 * p = 300 + 162 * h + 2 * p by omega] at w4
    rw [show A + 251 + 9 = A + 252 + 8 by omega, show A + 251 + 10 = A + 252 + 9 by omega, mu 8 p (by omega) (k2 p hp).1, mu 9 p (by omega) (k2 p hp).2, n5 _ (by omega), n5 _ (by omega), show 299 + 162 * h + (2 * p + 1) = 300 + 162 * h + 2 * p by omega]
    refine ⟨?_, ?_, w4, w3⟩
    · rw [show A + 1 + (37 + 15 * h + 8) = A + 1 + 45 + 15 * h by omega]; exact w1.symm
    · rw [show A + 1 + (37 + 15 * h + 9) = A + 1 + 46 + 15 * h by omega]; exact w2.symm
  · rw [n4 p hp, show A + 251 + 16 = A + 267 by omega, q2, if_neg (by omega), if_neg (by omega), if_pos ⟨rfl, by omega, hp⟩]
  · rw [m5, q2, if_pos ⟨rfl, rfl⟩]
  · rw [m6, q2, if_neg (by omega), if_pos ⟨rfl, rfl⟩]
  · rw [q2, if_neg (by omega), if_neg (by omega), if_neg (by omega)]
    exact out1 x y (by omega)
  · rw [o0 _ _ h1, t2, if_neg (by omega), r2, if_neg (by omega)]
/-- both go plainly -/
theorem pl_go (hn : 1000 ≤ n) (hmA : A + 268 ≤ m) (g0 : Gs b (A + 1) m M s M s) {T : Nat} (hT : T ≤ 200) : ∃ h c μ' s', F_X10_goPlainly n A (nI T) M = some μ' ∧ F_X11_layPlain n m (nI T) s = some s' ∧ PL (A + 251) m h c μ' s' ∧ FP (A + 251) m M s μ' s' := by
  obtain ⟨h, c, μ0, s0, hh, a1, a2, a3, a4⟩ := pl_start (n := n) hn hmA g0 (nI T)
  obtain ⟨μ', s', z1, z2, z3, z4⟩ := sim_plLoop (n := n) hh hT T 0 n n μ0 s0 (by omega) (by omega) (by omega) a3
  refine ⟨h, c, μ', s', ?_, ?_, z3, FP_trans a4 z4⟩
  · rw [F_X10_goPlainly, a1, Option.bind_some]
    exact z1
  · rw [a2]
    exact z2
end PLAIN11
