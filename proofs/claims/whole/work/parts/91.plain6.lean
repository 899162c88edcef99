/-! ===== a plain machine: one turn, whole ===== -/
section PLAIN6
variable {e m n h c : Nat} {μ s : gw_M}
theorem m_139 {v3 : Int32} {base w : Nat} (hw : v3 = nI w) (hw2 : w < 20813) : F_X11_plainAct_139 n m (nI base) v3 s = if ¬ s (m + 1) w = 9 then some s else (F_X11_hasPlace n m (nI base) (s m 9) s).bind (fun (r_3 : Int32) => (if r_3 = 0 then some s else some (gw_up s m 7 (s m 9)))) := by
  subst hw
  simp only [F_X11_plainAct_139, gw_let]
  rw [gi hw2 (by decide), nI_clamp (by omega)]
theorem bs {X : Option gw_M} : X.bind (fun (z : gw_M) => some z) = X := by
  cases X <;> rfl
theorem sim_plTurn (hh : h < 3) (hP : PL e m h c μ s) (hc0 : 0 < c) : ∃ μ' s', F_X6_goOn n e μ = some μ' ∧ F_X11_plainAct n m (nI (58 + 162 * (1 + h))) (s m 7) s = some s' ∧ PL e m h c μ' s' ∧ FP e m μ s μ' s' := by
  obtain ⟨⟨a1, a2, a3⟩, -, -, ⟨p, hp, p1, p2⟩, -⟩ := id hP
  have hpc : p < c := by omega
  have hq : (p + 1) % c < c := Nat.mod_lt _ hc0
  have P1 := PL_place hP (p := (p + 1) % c) (Or.inl hq)
  obtain ⟨-, b1, -⟩ := id P1
  obtain ⟨k1, k2, k3, act⟩ := b1 p hpc
  obtain ⟨g1, g2, g3, g4, g5, g6, -, -, g9, g10⟩ := act
  have g10' := g10 (by omega)
  obtain ⟨a, ha, ea⟩ := nI_of_rg (v := gw_up μ (e + 3) 4 (nI ((p + 1) % c)) (e + 4) p) (n := 9) (by omega) (by omega)
  obtain ⟨x, hx, ex⟩ := nI_of_rg (v := gw_up μ (e + 3) 4 (nI ((p + 1) % c)) (e + 5) p) (n := 15) (by omega) (by omega)
  have adv : F_X7_advance n (e + 3) μ = some (nI p, gw_up μ (e + 3) 4 (nI ((p + 1) % c))) := by
    simp only [F_X7_advance, gw_let, a2, p1, nI_1]
    by_cases hl : c ≤ p + 1
    · rw [if_pos (nI_le hl (by omega)), show (p + 1) % c = 0 by rw [show p + 1 = c by omega, Nat.mod_self]]
      rfl
    · rw [if_neg (nI_ge (by omega) (by omega)), Nat.mod_eq_of_lt (show p + 1 < c by omega)]
  obtain ⟨μ', s', q1, q2, q3, q4⟩ := sim_plAct (n := n) (p := p) (y := gw_up μ (e + 3) 4 (nI ((p + 1) % c)) (e + 6) p) hh P1 ha hx (fun h1 => by
    have h2 : gw_up μ (e + 3) 4 (nI ((p + 1) % c)) (e + 4) p ≠ 1 := fun z => h1 (by
      rw [ea] at z
      exact nI_inj (b := 1) (by omega) (by decide) z)
    have h3 := g9 h2
    exact nI_of_rg (n := 15) (by omega) (by omega))
  refine ⟨μ', s', ?_, ?_, q3, FP_trans (FP_up (by omega) (by omega)) q4⟩
  · simp only [F_X6_goOn]
    have hck : 0 ≤ nI p ∧ p < 24 := ⟨nI_pos' (by omega), by omega⟩
    rw [a2, if_pos (show ¬ nI c = 0 from nI_ne0 hc0 (by omega)), adv, bi_some]
    simp only [nI_clamp (show p < 2 ^ 31 by omega), if_pos hck, gw_let, bs]
    rw [ea, ex]
    exact q1
  · have wi : nI (58 + 162 * (1 + h)) + 7 + 3 * nI p = nI (65 + 162 * (1 + h) + 3 * p) := by
      rw [show (7 : Int32) = nI 7 from rfl, show (3 : Int32) = nI 3 from rfl, pk_mul, nI_add, nI_add]
      congr 1
      omega
    have c6 : nI (58 + 162 * (1 + h)) + 6 = nI (64 + 162 * (1 + h)) := by
      rw [show (6 : Int32) = nI 6 from rfl, nI_add]
      congr 1
      omega
    have w2 : nI (65 + 162 * (1 + h) + 3 * p) + 2 = nI (67 + 162 * (1 + h) + 3 * p) := by
      rw [show (2 : Int32) = nI 2 from rfl, nI_add]
      congr 1
      omega
    have w1 : nI (65 + 162 * (1 + h) + 3 * p) + 1 = nI (66 + 162 * (1 + h) + 3 * p) := by
      rw [nI_1]
      congr 1
      omega
    have ck : ∀ z, z < 20813 → (0 ≤ nI z ∧ z < 20813) := fun z hz => ⟨nI_pos' (by omega), hz⟩
    have rem : nI p + 1 - (nI p + 1) / nI c * nI c = nI ((p + 1) % c) := by
      rw [nI_1]
      exact pk_rem (by omega) hc0 (by omega)
    have s1a := k1.symm.trans ea
    have s1x := k2.symm.trans ex
    have s1y := k3.symm
    simp only [F_X11_plainAct, gw_let, p2, wi, c6, w1, w2, a3, rem, nI_clamp (show 64 + 162 * (1 + h) < 2 ^ 31 by omega), nI_clamp (show 65 + 162 * (1 + h) + 3 * p < 2 ^ 31 by omega), nI_clamp (show 66 + 162 * (1 + h) + 3 * p < 2 ^ 31 by omega), nI_clamp (show 67 + 162 * (1 + h) + 3 * p < 2 ^ 31 by omega), if_pos (ck (64 + 162 * (1 + h)) (by omega)), if_pos (ck (65 + 162 * (1 + h) + 3 * p) (by omega)), if_pos (ck (66 + 162 * (1 + h) + 3 * p) (by omega)), if_pos (ck (67 + 162 * (1 + h) + 3 * p) (by omega)), bs, m_139 (w := 65 + 162 * (1 + h) + 3 * p) rfl (by omega), s1a, s1x, s1y]
    rw [if_pos (show ¬ nI c = 0 from nI_ne0 hc0 (by omega))]
    exact q2
end PLAIN6
