/-! ===== giving and parting, whole ===== -/
section GIVE2
variable {b e m n h : Nat} {K N : gw_M} {L3 L2 L : List Nat} {μ s : gw_M} {P : Nat → Bool}
theorem cl2_ne {q a j : Nat} {to rt : Int32} (h : ¬ (a = e + 3 ∧ j = q) ∧ ¬ (a = e + 4 ∧ j = q) ∧ ¬ (a = e + 1 ∧ j = 3)) : cl2 e q to rt μ a j = μ a j := by
  unfold cl2
  rw [up_ne h.2.2, up_ne h.2.1, up_ne h.1]
theorem sim_gloop (hn : 1000 ≤ n) (hh : h < 3) {p : Nat} (hp : p < 16) : ∀ (ℓ b f1 f2 i : Nat) (x : Int32) (P : Nat → Bool) (L3 L2 : List Nat) (μ s : gw_M), L2.length = ℓ → i + ℓ ≤ 16 → ℓ < f1 → ℓ < f2 → b + ℓ + 1 < 2 ^ 28 → G b e m K N L3 L2 (cuf e P μ) s → s (m + 1) 15 = nI h → (∀ z, z < 16 → (P z || tob e h p μ z) = Pm e h x μ z) → ∃ x' f v μ1 s', F_X4_give_15 n (e + 1) f1 (nI p) x (low (led (μ (e + 3))) 0 10) (nI i) μ = some (x', cgv e p f v μ1) ∧ F_X11_give_0 n m f2 (nI p) s = some s' ∧ f ≤ 9 ∧ (∃ L3' L2', G (b + ℓ + 1) e m K N L3' L2' (cuf e (Pm e h x' μ) (cgv e p f v μ1)) s') ∧ ∀ a j, a < e + 1 ∨ e + 7 < a → μ1 a j = μ a j := by
  intro ℓ
  induction ℓ with
  | zero =>
    intro b f1 f2 i x P L3 L2 μ s hl hi hf1 hf2 hb hG h1 hP
    obtain ⟨f1, rfl⟩ : ∃ z, f1 = z + 1 := ⟨f1 - 1, by omega⟩
    obtain ⟨f2, rfl⟩ : ∃ z, f2 = z + 1 := ⟨f2 - 1, by omega⟩
    have hL2 : L2 = [] := List.length_eq_zero_iff.mp hl
    have hfr := G_free (n := n) hn hG
    have hled : led (cuf e P μ (e + 3)) = led (μ (e + 3)) := by
      funext f
      exact led_cg (fun p hp => cuf_ne (by omega)) f
    rw [hled] at hfr
    rcases low_rg (led (μ (e + 3))) 10 0 with hlow | ⟨f, -, hf, hlow, -⟩
    · exfalso
      have := low_m1 _ 10 0 (by decide) hlow 0 (by decide) (by decide)
      obtain ⟨q, hq, h2⟩ := led_true.mp this
      obtain ⟨⟨l1, l2, -⟩, -⟩ := G_q hG 5 (by decide)
      have h3 := G_rd hG (gd_t2 q hq).1
      rw [cuf_ne (by omega), h2] at h3
      have : q ∈ L2 := (l2 q).mpr ⟨hq, by rw [h3]; decide⟩
      rw [hL2] at this
      cases this
    · rw [hlow] at hfr ⊢
      have hm : ¬ nI f = -1 := by rw [nI_m1 (by omega)]; exact id
      obtain ⟨v, s', e1, e2, L3', L2', G1⟩ := sim_gend (n := n) hn hG (by omega) hh h1 hp (f := f) (by omega) x
      refine ⟨x, f, v, μ, s', ?_, ?_, by omega, ⟨L3', L2', ?_⟩, fun _ _ _ => rfl⟩
      · rw [F_X4_give_15, if_pos hm, e1]
        split <;> rfl
      · rw [F_X11_give_0, hfr, Option.bind_some, if_pos hm, Option.bind_some]
        exact e2
      · rw [← cuf_cg hP]; exact G1
  | succ ℓ ih =>
    intro b f1 f2 i x P L3 L2 μ s hl hi hf1 hf2 hb hG h1 hP
    obtain ⟨f1, rfl⟩ : ∃ z, f1 = z + 1 := ⟨f1 - 1, by omega⟩
    obtain ⟨f2, rfl⟩ : ∃ z, f2 = z + 1 := ⟨f2 - 1, by omega⟩
    have hfr := G_free (n := n) hn hG
    have hled : led (cuf e P μ (e + 3)) = led (μ (e + 3)) := by
      funext f
      exact led_cg (fun p hp => cuf_ne (by omega)) f
    rw [hled] at hfr
    rcases low_rg (led (μ (e + 3))) 10 0 with hlow | ⟨f, -, hf, hlow, -⟩
    · rw [hlow] at hfr ⊢
      obtain ⟨⟨l1, l2, l3, l4, l5⟩, -, o4⟩ := G_q hG 5 (by decide)
      match L2, hl, hG, l1, l2, l3, l4, l5, o4 with
      | q :: L', hl, hG, l1, l2, l3, l4, l5, o4 =>
      obtain ⟨fq, s1, hq, hfq, w1, e1, ⟨L3', G1⟩, h15⟩ := sim_swap (n := n) hn hG (by omega) hh h1 (p := q) rfl List.mem_cons_self
      have hfil : (q :: L').filter (fun z => decide (z ≠ q)) = L' := by
        rw [List.filter_cons, if_neg (by simp), List.filter_eq_self]
        intro z hz
        have : q ≠ z := (List.nodup_cons.mp l1).1 |> fun c d => c (d ▸ hz)
        simpa using fun c : z = q => this c.symm
      rw [hfil] at G1
      have μd : ∃ μ2, μ2 = gw_up (cl2 e q (-1) 0 (gw_up μ (e + 7) q (μ (e + 6) fq))) (e + 1) 5 (μ (e + 1) 5 + 1) := ⟨_, rfl⟩
      obtain ⟨μ2, hμ2⟩ := μd
      rw [← hμ2] at G1
      have r2 : ∀ a j, a < e + 1 ∨ e + 7 < a → μ2 a j = μ a j := fun a j ha => by rw [hμ2, up_ne (by omega), cl2_ne (by omega), up_ne (by omega)]
      have ht : tOK e h μ := tOK_cg (G_tOK hG hh) (fun p => (cuf_ne (by omega)).symm)
      have hrow : ∀ p, μ2 (e + 49 + 15 * h) p = μ (e + 49 + 15 * h) p := fun p => r2 _ _ (by omega)
      have ht2 : tOK e h μ2 := tOK_cg ht hrow
      obtain ⟨x', f, v, μ1, s', i1, i2, i3, ⟨L4, L5, i4⟩, i5⟩ := ih (b + 1) f1 f2 (i + 1) (x ||| ((1 : Int32) <<< (nI q &&& 31))) (fun z => P z || tob e h q μ z) L3' L' μ2 s1 (by simpa using hl) (by omega) (by omega) (by omega) (by omega) G1 h15 (fun z hz => by
        rw [Pm_or ht2 hq hz, tob_cg hrow, tob_cg hrow, Pm_cg hrow, ← hP z hz]
        cases P z <;> cases tob e h q μ z <;> cases tob e h p μ z <;> rfl)
      have hel : F_X8_eldest n (e + 1 + 1) μ = some (nI q) := by
        have := c_eldest (n := n) (a := e + 2) (μ := μ) (L := q :: L') hn (fun z => by
          rw [l2 z]
          constructor
          · rintro ⟨z1, z2⟩
            rw [G_rd hG (gd_t2 z z1).1, cuf_ne (by omega)] at z2
            exact ⟨z1, z2⟩
          · rintro ⟨z1, z2⟩
            refine ⟨z1, ?_⟩
            rw [G_rd hG (gd_t2 z z1).1, cuf_ne (by omega)]
            exact z2) (by
          have hc : ∀ z, cuf e P μ (e + (2 + 3)) z = μ (e + 2 + 3) z := fun z => cuf_ne (by omega)
          simp only [hc] at o4
          exact o4)
        exact this
      have hled2 : ∀ p, p < 16 → μ2 (e + 3) p = -1 ∨ ∃ q, q ≤ 9 ∧ μ2 (e + 3) p = nI q := by
        intro z hz
        have := G_ht G1 z hz
        rw [cuf_ne (by omega)] at this
        exact this
      obtain ⟨y, y1, y2⟩ := c_free (n := n) hn hled2
      refine ⟨x', f, v, μ1, s', ?_, ?_, i3, ⟨L4, L5, ?_⟩, fun a j ha => (i5 a j ha).trans (r2 a j ha)⟩
      · rw [F_X4_give_15, if_neg (by rw [show (16 : Int32) = nI 16 from rfl]; exact nI_ge (by omega) (by omega)), if_neg (by decide), hel, Option.bind_some, if_pos (by rw [nI_m1 (by omega)]; exact id), c_storeAway hq hfq w1, Option.bind_some]
        simp only [gw_let, nI_1]
        have h5 : cl2 e q (-1) 0 (gw_up μ (e + 7) q (μ (e + 6) fq)) (e + 1) 5 = μ (e + 1) 5 := by rw [cl2_ne (by omega), up_ne (by omega)]
        rw [h5, ← hμ2, y1, Option.bind_some, y2, Option.bind_some]
        exact i1
      · rw [F_X11_give_0, hfr, Option.bind_some, if_neg (by decide), e1, Option.bind_some]
        exact i2
      · rw [Pm_cg hrow] at i4
        rw [show b + (ℓ + 1) + 1 = b + 1 + ℓ + 1 by omega]
        exact i4
    · rw [hlow] at hfr ⊢
      have hm : ¬ nI f = -1 := by rw [nI_m1 (by omega)]; exact id
      obtain ⟨v, s', e1, e2, L3', L2', G1⟩ := sim_gend (n := n) hn hG (by omega) hh h1 hp (f := f) (by omega) x
      refine ⟨x, f, v, μ, s', ?_, ?_, by omega, ⟨L3', L2', ?_⟩, fun _ _ _ => rfl⟩
      · rw [F_X4_give_15, if_pos hm, e1]
        split <;> rfl
      · rw [F_X11_give_0, hfr, Option.bind_some, if_pos hm, Option.bind_some]
        exact e2
      · rw [← cuf_cg hP]
        exact G_mono G1 (by omega) (by omega)
theorem sim_give (hn : 1000 ≤ n) (hG : G b e m K N L3 L2 μ s) (hb : b + 17 < 2 ^ 28) (hh : h < 3) (h1 : s (m + 1) 15 = nI h) {p : Nat} (hp : p < 16) : ∃ x μ1 μ' s' f, F_X4_give n (e + 1) (nI p) μ = some (x, μ1) ∧ F_X3_unfold n e x μ1 = some μ' ∧ F_X11_give n m (nI p) s = some s' ∧ (∃ L3' L2', G (b + 17) e m K N L3' L2' μ' s') ∧ (∀ a j, a < e + 1 ∨ (e + 7 < a ∧ a ≠ e + 9 ∧ a ≠ e + 10) → μ' a j = μ a j) ∧ f ≤ 9 ∧ μ' (e + 3) p = nI f ∧ μ' (e + 4) p = 7 ∧ bt (μ' (e + 1) 3) p = false ∧ ∀ z, z < 16 → μ (e + 9) z = -1 → μ' (e + 9) z = -1 := by
  have hG' : G b e m K N L3 L2 (cuf e (fun _ => false) μ) s := by rw [cuf_no (fun _ _ => rfl)]; exact hG
  obtain ⟨⟨l1, l2, l3, l4, l5⟩, -⟩ := G_q hG 5 (by decide)
  have ht := G_tOK hG hh
  obtain ⟨x, f, v, μ1, s', i1, i2, i3, ⟨L4, L5, i4⟩, i5⟩ := sim_gloop (n := n) hn hh hp L2.length b n n 0 ((1 : Int32) <<< (nI p &&& 31)) (fun _ => false) L3 L2 μ s rfl (by omega) (by omega) (by omega) (by omega) hG' h1 (fun z hz => by rw [Pm_one ht hp hz]; rfl)
  obtain ⟨y, y1, y2⟩ := c_free (n := n) hn (G_ht hG)
  have hrow : ∀ z, cgv e p f v μ1 (e + 49 + 15 * h) z = μ (e + 49 + 15 * h) z := fun z => by rw [cgv_ne (by omega), i5 _ _ (by omega)]
  have h5 : cgv e p f v μ1 e 5 = nI h := by
    rw [cgv_ne (by omega), i5 _ _ (by omega)]
    exact (G_rd hG (i := 15) (c := 0) (j := 5) (by decide +kernel)).symm.trans h1
  have hu := c_unf (n := n) hn hh h5 (tOK_cg ht hrow) x
  rw [Pm_cg hrow] at hu
  refine ⟨x, cgv e p f v μ1, _, s', f, ?_, hu, i2, ⟨L4, L5, G_mono i4 (by omega) (by omega)⟩, fun a j ha => ?_, i3, ?_, ?_, ?_, fun z hz h9 => ?_⟩
  · simp only [F_X4_give, gw_let]
    rw [y1, Option.bind_some, y2, Option.bind_some]
    exact i1
  · rw [cuf_ne (by omega), cgv_ne (by omega), i5 _ _ (by omega)]
  · rw [cuf_ne (by omega)]
    unfold cgv cput
    rw [up_ne (by omega), up_ne (by omega), up_ne (by omega), up_ne (by omega), up_ne (by omega), up_ne (by omega), up_ne (by omega), up_eq ⟨rfl, rfl⟩]
  · rw [cuf_ne (by omega)]
    unfold cgv cput
    rw [up_ne (by omega), up_ne (by omega), up_ne (by omega), up_ne (by omega), up_ne (by omega), up_ne (by omega), up_eq ⟨rfl, rfl⟩]
  · rw [cuf_ne (by omega)]
    unfold cgv
    rw [up_ne (by omega), up_ne (by omega), up_ne (by omega), up_eq ⟨rfl, rfl⟩]
    have := clr_bt (μ1 (e + 1) 3) hp hp
    rw [if_pos rfl] at this
    exact this
  · rw [((cuf_is _ _ _).2 z hz).1]
    split
    · rfl
    · rw [cgv_ne (by omega), i5 _ _ (by omega)]; exact h9
/-! parting -/
theorem c_shares2 {p : Nat} (hp : p < 16) : ∀ (d k f : Nat), k + d = 16 → d < f → F_X4_sharesFrame_2 n (e + 1) f (nI p) (nI k) μ = some (if (List.range' k d).any (fun z => decide (z ≠ p) && decide (μ (e + 3) z = μ (e + 3) p)) then 1 else 0) := by
  intro d
  induction d with
  | zero =>
    intro k f hk hf
    obtain ⟨f, rfl⟩ : ∃ z, f = z + 1 := ⟨f - 1, by omega⟩
    have : k = 16 := by omega
    subst this
    rw [F_X4_sharesFrame_2, if_pos (by decide)]
    rfl
  | succ d ih =>
    intro k f hk hf
    obtain ⟨f, rfl⟩ : ∃ z, f = z + 1 := ⟨f - 1, by omega⟩
    have hc : 0 ≤ nI k ∧ k < 16 := ⟨nI_pos' (by omega), by omega⟩
    have hcp : 0 ≤ nI p ∧ p < 16 := ⟨nI_pos' (by omega), by omega⟩
    rw [F_X4_sharesFrame_2, if_neg (by rw [show (16 : Int32) = nI 16 from rfl]; exact nI_ge (by omega) (by omega))]
    simp only [nI_clamp (show k < 2 ^ 31 by omega), nI_clamp (show p < 2 ^ 31 by omega), if_pos hc, if_pos hcp, F_X4_sharesFrame_36, gw_let, nI_1, ih (k + 1) f (by omega) (by omega), nI_eqT (show k < 2 ^ 31 by omega) (show p < 2 ^ 31 by omega), show e + 1 + 2 = e + 3 from rfl]
    rw [List.range'_succ, List.any_cons]
    by_cases h1 : k = p
    · rw [if_pos h1, decide_eq_false (not_not_intro h1), Bool.false_and, Bool.false_or]
    · rw [if_neg h1, decide_eq_true h1, Bool.true_and]
      by_cases h2 : μ (e + 3) k = μ (e + 3) p
      · rw [if_neg (not_not_intro h2), decide_eq_true h2, Bool.true_or]; rfl
      · rw [if_pos h2, decide_eq_false h2, Bool.false_or]
theorem m_leadTo4 (v : Int32) : ∀ (d k f : Nat) (x : Int32), k + d = 16 → d < f → ∃ y, F_X11_leadTo_4 n m f v x (nI k) s = some y ∧ ∀ i, i < 32 → bt y i = (bt x i || (decide (k ≤ i) && (decide (i < 16) && decide (s (m + 1) (706 + 2 * i) = v)))) := by
  intro d
  induction d with
  | zero =>
    intro k f x hk hf
    obtain ⟨f, rfl⟩ : ∃ z, f = z + 1 := ⟨f - 1, by omega⟩
    have : k = 16 := by omega
    subst this
    rw [F_X11_leadTo_4, if_pos (by decide)]
    refine ⟨x, rfl, fun i hi => ?_⟩
    by_cases h : 16 ≤ i
    · rw [decide_eq_false (show ¬ i < 16 by omega)]; simp
    · rw [decide_eq_false h]; simp
  | succ d ih =>
    intro k f x hk hf
    obtain ⟨f, rfl⟩ : ∃ z, f = z + 1 := ⟨f - 1, by omega⟩
    rw [F_X11_leadTo_4, if_neg (by rw [show (16 : Int32) = nI 16 from rfl]; exact nI_ge (by omega) (by omega))]
    simp only [m_to2 (n := n) (m := m) (s := s) (show k < 16 by omega), Option.bind_some, F_X11_leadTo_28, gw_let, nI_1]
    by_cases h0 : s (m + 1) (706 + 2 * k) = v
    · rw [if_neg (not_not_intro h0)]
      obtain ⟨y, e1, e2⟩ := ih (k + 1) f (x ||| ((1 : Int32) <<< (nI k &&& 31))) (by omega) (by omega)
      refine ⟨y, e1, fun i hi => ?_⟩
      rw [e2 i hi, b_set x (by omega) hi]
      by_cases hik : i = k
      · subst hik
        simp [h0, show i < 16 by omega]
      · simp only [hik, decide_false, Bool.or_false]
        congr 2
        rw [decide_eq_decide]
        omega
    · rw [if_pos h0]
      obtain ⟨y, e1, e2⟩ := ih (k + 1) f (x ||| 0) (by omega) (by omega)
      refine ⟨y, e1, fun i hi => ?_⟩
      rw [e2 i hi, b_or, b_0, Bool.or_false]
      by_cases hik : i = k
      · subst hik
        simp [h0]
      · congr 2
        rw [decide_eq_decide]
        omega
theorem m_leadTo (hn : 1000 ≤ n) (v : Int32) : ∃ y, F_X11_leadTo n m v s = some y ∧ ∀ i, i < 32 → bt y i = (decide (i < 16) && decide (s (m + 1) (706 + 2 * i) = v)) := by
  obtain ⟨y, e1, e2⟩ := m_leadTo4 (n := n) (m := m) (s := s) v 16 0 n 0 rfl (by omega)
  exact ⟨y, e1, fun i hi => by rw [e2 i hi, b_0]; simp⟩
/-- the copied bit goes, and what is folded there -/
theorem sim_unshare (hn : 1000 ≤ n) (hG : G b e m K N L3 L2 μ s) (hh : h < 3) (h1 : s (m + 1) 15 = nI h) {q f : Nat} (hq : q < 16) (hf : f ≤ 9) (hw : μ (e + 3) q = nI f) : ∃ s', F_X11_unfoldTo n m (nI q) (gw_up s (m + 1) 27 (clr (s (m + 1) 27) q)) = some s' ∧ ∃ L3', G b e m K N L3' L2 (gw_up (cuf e (tob e h q μ) μ) (e + 1) 3 (clr (μ (e + 1) 3) q)) s' := by
  have hT := G_q hG 0 (by decide)
  have hL := (G_q hG 4 (by decide)).1
  have s0d : ∃ s0, s0 = gw_up s (m + 1) 27 (clr (s (m + 1) 27) q) := ⟨_, rfl⟩
  obtain ⟨s0, hs0⟩ := s0d
  have r0 : ∀ i, i ≠ 27 → s0 (m + 1) i = s (m + 1) i := fun i hi => by rw [hs0, up_ne (by omega)]
  have hT0 : gq_T (s0 (m + 1)) := gq_T_congr hT (fun i hi => r0 i (by rintro rfl; revert hi; decide))
  have hL0 : gq_L (s0 (m + 1)) 754 786 23 L3 := gq_L_congr hL (fun p hp => r0 _ (by omega)) (r0 _ (by omega)) (fun k hk => r0 _ (by omega))
  obtain ⟨s2, e2, u2⟩ := m_unfoldTo (n := n) hn hh (nI q) hT0 hL0 (by rw [r0 _ (by omega)]; exact h1)
  have u3 := uf_congr u2 (Q := tob e h q μ) (fun p hp => by rw [r0 _ (by omega)]; exact tob_m hG hh q hp) (fun z hz => ((hL.2.1 z).mp hz).1)
  have s1d : ∃ s1 : gw_M, s1 = fun a j => if a = m + 1 ∧ (j = 23 ∨ (754 ≤ j ∧ j < 802)) then s2 a j else s a j := ⟨_, rfl⟩
  obtain ⟨s1, hs1⟩ := s1d
  have hs2 : s2 = gw_up s1 (m + 1) 27 (clr (s1 (m + 1) 27) q) := by
    have h27 : s1 (m + 1) 27 = s (m + 1) 27 := by rw [hs1]; exact if_neg (by omega)
    rw [h27]
    funext a j
    by_cases c : a = m + 1 ∧ (j = 23 ∨ (754 ≤ j ∧ j < 802))
    · rw [up_ne (by omega), hs1]
      simp only [if_pos c]
    · rw [u3.1 a j c, hs0]
      by_cases c2 : a = m + 1 ∧ j = 27
      · rw [up_eq c2, up_eq c2]
      · rw [up_ne c2, up_ne c2, hs1]
        simp only [if_neg c]
  have u1 : m_uf m (tob e h q μ) L3 s s1 := by
    obtain ⟨w1, w2, w3⟩ := u3
    have rs : ∀ i, (i = 23 ∨ (754 ≤ i ∧ i < 802)) → s1 (m + 1) i = s2 (m + 1) i := fun i hi => by rw [hs1]; exact if_pos ⟨rfl, hi⟩
    refine ⟨fun a j hj => ?_, fun p hp => ?_, ?_, ?_, fun k p hk => ?_⟩
    · rw [hs1]
      simp only [if_neg hj]
    · obtain ⟨w4, w5⟩ := w2 p hp
      rw [rs _ (by omega), rs _ (by omega), w4, w5, r0 _ (by omega), r0 _ (by omega)]
      exact ⟨rfl, rfl⟩
    · rw [rs _ (by omega)]; exact w3.1
    · exact w3.2.1
    · have hlt := (List.getElem?_eq_some_iff.mp hk).1
      have := w3.2.1
      rw [rs _ (by omega)]; exact w3.2.2 k p hk
  have G1 := sim_uf hG u1 (cuf_is _ _ _)
  obtain ⟨r, hr, r1, r2⟩ := G_n G1 (gd_t2 q hq).2.1 (n := 7) (gd_q2 q hq).2.1
  have w2 : s1 (m + 1) (706 + 2 * q) = nI f := by rw [G_rd G1 (gd_t2 q hq).1, cuf_ne (by omega)]; exact hw
  have i1 : gw_up (gw_up s1 (m + 1) (706 + 2 * q) (nI f)) (m + 1) (707 + 2 * q) (nI r) = s1 := by rw [← w2, up_id, ← r2, up_id]
  obtain ⟨X, rq⟩ := core_lay2 G1 hq (to := nI f) (rt := nI r) (Or.inr ⟨⟨f, hf, rfl⟩, ⟨r, hr, rfl⟩⟩) (uf_hF hG hh h1 u1) (s' := s2) (by
    rw [i1, ← hs2]
    exact fun _ _ _ => rfl)
  have hc : cl2 e q (nI f) (nI r) (cuf e (tob e h q μ) μ) = gw_up (cuf e (tob e h q μ) μ) (e + 1) 3 (clr (μ (e + 1) 3) q) := by
    have a1 : cuf e (tob e h q μ) μ (e + 3) q = nI f := by rw [cuf_ne (by omega)]; exact hw
    unfold cl2
    rw [cuf_ne (show ¬ (e + 1 = e + 9 ∨ e + 1 = e + 10) by omega)]
    congr 1
    rw [← a1, up_id, ← r1, up_id]
  rw [hc] at X
  rw [← hs0]
  refine ⟨s2, e2, _, GX_end X (fun _ => rfl) (fun c => by simp at c) (fun k hk hE => ?_)⟩
  have hk5 : k = 5 := by simpa using hE
  subst hk5
  refine gq_congr (G_q G1 5 (by decide)) (fun i hi => ?_) (fun c j hc => ?_)
  · rw [hs2, up_ne]
    rintro ⟨-, rfl⟩
    revert hi
    decide
  · rw [up_ne]
    rintro ⟨w1, rfl⟩
    have : c = 1 := by omega
    subst this
    revert hc
    decide
theorem sim_part (hn : 1000 ≤ n) (hG : G b e m K N L3 L2 μ s) (hh : h < 3) (h1 : s (m + 1) 15 = nI h) {p f : Nat} (hp : p < 16) (hf : f ≤ 9) (hw : μ (e + 3) p = nI f) : ∃ μ1 μ', F_X4_part n (e + 1) (nI p) μ = some μ1 ∧ F_X3_unfold n e ((1 : Int32) <<< (nI p &&& 31)) μ1 = some μ' ∧ (∀ a j, a < e + 1 ∨ (e + 7 < a ∧ a ≠ e + 9 ∧ a ≠ e + 10) → μ' a j = μ a j) ∧ (∀ z, z < 16 → (μ (e + 9) z = -1 ∨ tob e h p μ z = true) → μ' (e + 9) z = -1) ∧ ((∃ s', F_X11_part n m (nI p) s = some s' ∧ (∃ L3' L2', G b e m K N L3' L2' μ' s') ∧ μ' (e + 3) p = nI f ∧ μ' (e + 4) p = μ (e + 4) p ∧ bt (μ' (e + 1) 3) p = false) ∨ (∃ s', F_X11_part n m (nI p) s = F_X11_give n m (nI p) s' ∧ (∃ L3' L2', G b e m K N L3' L2' μ' s') ∧ μ' (e + 3) p = -1)) := by
  have h5 : μ e 5 = nI h := (G_rd hG (i := 15) (c := 0) (j := 5) (by decide +kernel)).symm.trans h1
  have ht := G_tOK hG hh
  have w2 : s (m + 1) (706 + 2 * p) = nI f := (G_rd hG (gd_t2 p hp).1).trans hw
  obtain ⟨y, y1, y2⟩ := m_leadTo (n := n) (m := m) (s := s) hn (nI f)
  have hsh : F_X4_sharesFrame n (e + 1) (nI p) μ = some (if (List.range' 0 16).any (fun z => decide (z ≠ p) && decide (μ (e + 3) z = μ (e + 3) p)) then 1 else 0) := c_shares2 hp 16 0 n rfl (by omega)
  have hy : (y = (1 : Int32) <<< (nI p &&& 31)) ↔ ¬ (List.range' 0 16).any (fun z => decide (z ≠ p) && decide (μ (e + 3) z = μ (e + 3) p)) = true := by
    rw [List.any_eq_true]
    constructor
    · rintro rfl ⟨z, z1, z2⟩
      have hz : z < 16 := by simpa using z1
      simp only [Bool.and_eq_true, decide_eq_true_eq] at z2
      have := y2 z (by omega)
      rw [b_one (by omega) (by omega), decide_eq_false z2.1, decide_eq_true hz, Bool.true_and, G_rd hG (gd_t2 z hz).1, z2.2, hw, decide_eq_true rfl] at this
      cases this
    · intro hno
      apply b_ext
      intro i hi
      rw [y2 i hi, b_one (by omega) hi]
      by_cases hip : i = p
      · subst hip
        simp [hp, w2]
      · rw [decide_eq_false hip]
        by_cases hi16 : i < 16
        · rw [decide_eq_true hi16, Bool.true_and]
          apply decide_eq_false
          intro c
          apply hno
          refine ⟨i, by simpa using hi16, ?_⟩
          rw [G_rd hG (gd_t2 i hi16).1] at c
          simp [hip, hw, c]
        · rw [decide_eq_false hi16, Bool.false_and]
  by_cases hs : (List.range' 0 16).any (fun z => decide (z ≠ p) && decide (μ (e + 3) z = μ (e + 3) p)) = true
  · rw [if_pos hs] at hsh
    obtain ⟨s1, e1, G1⟩ := sim_lay2_drop (n := n) hn hG hh h1 hp
    obtain ⟨v, hv, v1, v2⟩ := G_n hG (gd_fr f (by omega)).1 (gd_fr f (by omega)).2
    have v3 : s1 (m + 1) (802 + f) = nI v := by
      rw [G_rd G1 (gd_fr f (by omega)).1, cl2_ne (by omega), cuf_ne (by omega)]; exact v1
    have G2 := G_fr G1 (i := 812 + p) (c := 7) (j := p) (gd_t2 p hp).2.2.2.2 (v := nI v) (gq_nI (n := 9999) (gd_q2 p hp).2.2.2.2 (by decide) hv (by decide)) (by
      have : ∀ p < 16, ∀ k < 9, na k (812 + p) = false := by decide +kernel
      exact this p hp)
    have μd : ∃ μ1, μ1 = cl2 e p (-1) 0 (gw_up μ (e + 7) p (μ (e + 6) f)) := ⟨_, rfl⟩
    obtain ⟨μ1, hμ1⟩ := μd
    have r1 : ∀ a j, a < e + 1 ∨ e + 7 < a → μ1 a j = μ a j := fun a j ha => by rw [hμ1, cl2_ne (by omega), up_ne (by omega)]
    have hrow : ∀ z, μ1 (e + 49 + 15 * h) z = μ (e + 49 + 15 * h) z := fun z => r1 _ _ (by omega)
    have hu := c_unf1 (n := n) (μ := μ1) hn hh (by rw [r1 _ _ (by omega)]; exact h5) (tOK_cg ht hrow) hp
    rw [tob_cg hrow] at hu
    refine ⟨μ1, _, ?_, hu, fun a j ha => by rw [cuf_ne (by omega), r1 _ _ (by omega)], fun z hz h9 => ?_, Or.inr ⟨gw_up s1 (m + 1) (812 + p) (nI v), ?_, ?_, ?_⟩⟩
    · simp only [F_X4_part, hsh, Option.bind_some]
      rw [if_neg (by decide), c_storeAway hp hf hw, Option.bind_some, hμ1]
    · rw [((cuf_is _ _ _).2 z hz).1]
      rcases h9 with h9 | h9
      · split
        · rfl
        · rw [r1 _ _ (by omega)]; exact h9
      · rw [if_pos h9]
    · simp only [F_X11_part, m_to2 (n := n) (m := m) (s := s) hp, Option.bind_some, w2, y1, gw_let]
      rw [if_pos (fun c => hy.mp c hs), e1, Option.bind_some]
      simp only [show (812 : Int32) = nI 812 from rfl, show (802 : Int32) = nI 802 from rfl, nI_add, nI_clamp (show 812 + p < 2 ^ 31 by omega), nI_clamp (show 802 + f < 2 ^ 31 by omega), v3]
      rw [if_pos ⟨nI_pos' (by omega), by omega⟩, if_pos ⟨nI_pos' (by omega), by omega⟩]
      cases F_X11_give n m (nI p) (gw_up s1 (m + 1) (812 + p) (nI v)) <;> rfl
    · have hc : gw_up (cl2 e p (-1) 0 (cuf e (tob e h p μ) μ)) (e + 7) p (nI v) = cuf e (tob e h p μ) μ1 := by
        rw [hμ1, cuf_cl2, cuf_up (by omega), v1]
        unfold cl2
        rw [up_ne (a := e + 7) (a' := e + 1) (by omega), up_comm (a := e + 7) (a' := e + 3) (by omega), up_comm (a := e + 7) (a' := e + 4) (by omega), up_comm (a := e + 7) (a' := e + 1) (by omega)]
      rw [hc] at G2
      exact ⟨_, _, G2⟩
    · rw [cuf_ne (by omega), hμ1]
      unfold cl2
      rw [up_ne (by omega), up_ne (by omega), up_eq ⟨rfl, rfl⟩]
  · rw [if_neg hs] at hsh
    obtain ⟨s', e1, L3', G1⟩ := sim_unshare (n := n) hn hG hh h1 hp hf hw
    have μd : ∃ μ1, μ1 = gw_up μ (e + 1) 3 (clr (μ (e + 1) 3) p) := ⟨_, rfl⟩
    obtain ⟨μ1, hμ1⟩ := μd
    have hrow : ∀ z, μ1 (e + 49 + 15 * h) z = μ (e + 49 + 15 * h) z := fun z => by rw [hμ1, up_ne (by omega)]
    have hu := c_unf1 (n := n) (μ := μ1) hn hh (by rw [hμ1, up_ne (by omega)]; exact h5) (tOK_cg ht hrow) hp
    rw [tob_cg hrow] at hu
    refine ⟨μ1, _, ?_, hu, fun a j ha => by rw [cuf_ne (by omega), hμ1, up_ne (by omega)], fun z hz h9 => ?_, Or.inl ⟨s', ?_, ?_, ?_, ?_, ?_⟩⟩
    · simp only [F_X4_part, hsh, Option.bind_some]
      rw [if_pos trivial, hμ1]
      rfl
    · rw [((cuf_is _ _ _).2 z hz).1]
      rcases h9 with h9 | h9
      · split
        · rfl
        · rw [hμ1, up_ne (by omega)]; exact h9
      · rw [if_pos h9]
    · simp only [F_X11_part, m_to2 (n := n) (m := m) (s := s) hp, Option.bind_some, w2, y1, gw_let]
      rw [if_neg (not_not_intro (hy.mpr hs))]
      have e1' : F_X11_unfoldTo n m (nI p) (gw_up s (m + 1) 27 (s (m + 1) 27 &&& ((1 : Int32) <<< (nI p &&& 31) ^^^ -1))) = some s' := e1
      rw [e1', Option.bind_some]
    · rw [hμ1, cuf_up (by omega)]; exact ⟨_, _, G1⟩
    · rw [cuf_ne (by omega), hμ1, up_ne (by omega)]; exact hw
    · rw [cuf_ne (by omega), hμ1, up_ne (by omega)]
    · rw [cuf_ne (by omega), hμ1, up_eq ⟨rfl, rfl⟩]
      have := clr_bt (μ (e + 1) 3) hp hp
      rw [if_pos rfl] at this
      exact this
end GIVE2
