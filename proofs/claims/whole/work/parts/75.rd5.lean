/-! ===== calls that only read (5) ===== -/
section RD5
variable {b A m n h : Nat} {K N M s : gw_M} {L3 L2 : List Nat}
theorem m_al {rc : Int32 → Int32 → Int32 → gw_M → Option Int32} {f t p : Nat} {v x y : Int32} (hp : p < 16) (ht : t < 3) : F_X11_aliases_28 rc n m (f + 1) v x y (nI p) (nI t) s = (F_X11_toOf n m (nI t) (nI p) s).bind (fun (r3 : Int32) => F_X11_aliases_28 rc n m f v x y r3 (nI (t + 1)) s) := by
  rw [F_X11_aliases_28, if_neg (by rw [show (3 : Int32) = nI 3 from rfl, nI_leT (by omega) (by omega)]; omega), if_neg (by rw [nI_m1 (by omega)]; exact id)]
  simp only [gw_let, nI_1]
theorem m_alm {rc : Int32 → Int32 → Int32 → gw_M → Option Int32} {f t : Nat} {v x y : Int32} : F_X11_aliases_28 rc n m (f + 1) v x y (-1) (nI t) s = F_X11_aliases_56 rc n m v x y (-1) s := by
  rw [F_X11_aliases_28, if_pos (show (-1 : Int32) = -1 from rfl), ite_self]
theorem m_al3 {rc : Int32 → Int32 → Int32 → gw_M → Option Int32} {f : Nat} {v x y z : Int32} : F_X11_aliases_28 rc n m (f + 1) v x y z (nI 3) s = F_X11_aliases_56 rc n m v x y z s := by
  rw [F_X11_aliases_28, if_pos (by decide)]
theorem al_56 {rc : Int32 → Int32 → Int32 → gw_M → Option Int32} {k : Nat} {v x z : Int32} : F_X11_aliases_56 rc n m v x (nI k) z s = if ¬ z = v then rc v x (nI (k + 1)) s else rc v (x ||| ((1 : Int32) <<< (nI k &&& 31))) (nI (k + 1)) s := by
  simp only [F_X11_aliases_56, F_X11_aliases_70, gw_let, nI_1, Int32.or_zero]
theorem al_loop (hn : 1000 ≤ n) (g : G b A m K N L3 L2 M s) (hh : h < 3) (h5 : M A 5 = nI h) {w : Nat} (hw : w ≤ 9) : ∀ (d k f1 f2 : Nat) (x : Int32), k + d = 16 → d < f1 → d < f2 → SAME (F_X3_virtualPagesAt_13 n A f1 (nI w) (A + 37 + 15 * h + 7) x (nI k) M) (F_X11_aliases_16 n m f2 (nI w) x (nI k) s) := by
  have h15 := G_s15 g h5
  have hw1 : ¬ (-1 : Int32) = nI w := fun c => by
    have := nI_m1 (k := w) (by omega)
    rw [eq_comm, this] at c
    exact c
  intro d
  induction d with
  | zero =>
    intro k f1 f2 x hk hf1 hf2
    obtain ⟨f1, rfl⟩ : ∃ z, f1 = z + 1 := ⟨f1 - 1, by omega⟩
    obtain ⟨f2, rfl⟩ : ∃ z, f2 = z + 1 := ⟨f2 - 1, by omega⟩
    obtain rfl : k = 16 := by omega
    rw [F_X3_virtualPagesAt_13, F_X11_aliases_16, if_pos (by decide), if_pos (by decide)]
    exact sm_eq rfl rfl
  | succ d ih =>
    intro k f1 f2 x hk hf1 hf2
    obtain ⟨f1, rfl⟩ : ∃ z, f1 = z + 1 := ⟨f1 - 1, by omega⟩
    obtain ⟨f2, rfl⟩ : ∃ z, f2 = z + 1 := ⟨f2 - 1, by omega⟩
    obtain ⟨f, hf⟩ : ∃ f, n = f + 4 := ⟨n - 4, by omega⟩
    have hk16 : k < 16 := by omega
    have i1 := ih (k + 1) f1 f2 x (by omega) (by omega) (by omega)
    have i2 := ih (k + 1) f1 f2 (x ||| ((1 : Int32) <<< (nI k &&& 31))) (by omega) (by omega) (by omega)
    obtain ⟨t1, -, t3, -⟩ := G_t0 g hh hk16
    have gt16 : ¬ (16 : Int32) ≤ nI k := by rw [show (16 : Int32) = nI 16 from rfl]; exact nI_ge (by omega) (by omega)
    rw [F_X3_virtualPagesAt_13, F_X11_aliases_16, if_neg gt16, if_neg gt16, c_tabHas hk16, Option.bind_some, show F_X11_aliases_28 (F_X11_aliases_16 n m f2) n m n (nI w) x (nI k) (nI k) 0 s = F_X11_aliases_28 (F_X11_aliases_16 n m f2) n m (f + 3 + 1) (nI w) x (nI k) (nI k) (nI 0) s by rw [← hf]; rfl, m_al hk16 (by decide), m_to01 (t := 0) hh h15 (by decide) hk16, Option.bind_some, show 299 + 162 * h + 32 * 0 + 2 * k = 299 + 162 * h + 2 * k by omega, gi (k := k) hk16 (by decide), nI_clamp (show k < 2 ^ 31 by omega), show A + 37 + 15 * h + 7 + 1 = A + 45 + 15 * h by omega, ← t1]
    simp only [F_X3_virtualPagesAt_51, gw_let, nI_1]
    rcases t3 with t3 | ⟨q, hq, t3⟩
    · rw [t3, show f + 3 = f + 2 + 1 from rfl, m_alm, al_56, if_pos hw1]
      exact i1
    · have hne : ¬ nI q = -1 := by rw [nI_m1 (by omega)]; exact id
      have hq16 : q < 16 := by omega
      obtain ⟨u1, -, u3⟩ := G_t1 g hh hq16
      have hfi : F_X3_frameOfInner n A (nI q) M = if s (m + 1) (331 + 162 * h + 2 * q) = -1 then some (-1) else (if 0 ≤ (s (m + 1) (331 + 162 * h + 2 * q)) ∧ (s (m + 1) (331 + 162 * h + 2 * q)).toNatClampNeg < 16 then some (M (A + 3) (s (m + 1) (331 + 162 * h + 2 * q)).toNatClampNeg) else none) := by
        simp only [F_X3_frameOfInner, c_inHand hh h5, Option.bind_some]
        rw [c_tabHas hq16, Option.bind_some, gi (k := q) hq16 (by decide), nI_clamp (show q < 2 ^ 31 by omega), show A + 37 + 15 * h + 11 + 1 = A + 49 + 15 * h by omega, ← u1]
        by_cases c : s (m + 1) (331 + 162 * h + 2 * q) = -1
        · rw [if_pos c, if_pos c]; rfl
        · rw [if_neg c, if_neg c]; rfl
      rw [t3, if_neg hne, if_neg (show ¬ (1 : Int32) = 0 by decide), hfi, show f + 3 = f + 2 + 1 from rfl, m_al hq16 (by decide), m_to01 (t := 0 + 1) hh h15 (by decide) hq16, Option.bind_some, show 299 + 162 * h + 32 * (0 + 1) + 2 * q = 331 + 162 * h + 2 * q by omega]
      rcases u3 with u3 | ⟨r, hr, u3⟩
      · rw [u3, if_pos rfl, Option.bind_some, if_pos hw1, show f + 2 = f + 1 + 1 from rfl, m_alm, al_56, if_pos hw1]
        exact i1
      · have hne2 : ¬ nI r = -1 := by rw [nI_m1 (by omega)]; exact id
        have w1 := G_rd g (gd_t2 r (by omega)).1
        rw [u3, if_neg hne2, gi (k := r) (by omega) (by decide), nI_clamp (show r < 2 ^ 31 by omega), Option.bind_some, show f + 2 = f + 1 + 1 from rfl, m_al (show r < 16 by omega) (by decide), show nI (0 + 1 + 1) = 2 from rfl, m_to2 (show r < 16 by omega), Option.bind_some, show nI (0 + 1 + 1 + 1) = nI 3 from rfl, m_al3, al_56, w1]
        by_cases hz : M (A + 3) r = nI w
        · rw [if_neg (not_not_intro hz), if_neg (not_not_intro hz)]
          exact i2
        · rw [if_pos hz, if_pos hz]
          exact i1
theorem rd_aliases (hn : 1000 ≤ n) (g : G b (A + 1) m K N L3 L2 M s) (v : Int32) : SAME (F_X10_aliases n A v M) (F_X11_aliases n m v s) := by
  obtain ⟨h, hh, h5, h15⟩ := G_hand g
  simp only [F_X10_aliases, F_X10_isFrame, F_X11_aliases, c_within, m_isIn, Option.bind_some]
  rcases in_c v 9 (by decide) 9 rfl with hv | ⟨hv, w, hw, rfl⟩
  · rw [hv]; exact sm_eq rfl rfl
  · rw [hv, if_neg (show ¬ (1 : Int32) = 0 by decide), if_pos (show ¬ (1 : Int32) = 0 by decide)]
    obtain ⟨r, r1, r2⟩ := al_loop hn g hh h5 hw 16 0 n n 0 rfl (by omega) (by omega)
    refine sm_eq (r := r) ?_ r2
    rw [F_X3_virtualPagesAt, c_inHand hh h5, Option.bind_some, show (0 : Int32) = nI 0 from rfl]
    rw [show F_X3_virtualPagesAt_13 n (A + 1) n (nI w) (A + 1 + 37 + 15 * h + 7) (nI 0) (nI 0) M = some r from r1]
    rfl
theorem small_ten {y : Int32} (h : ∀ i, 10 ≤ i → i < 32 → bt y i = false) : ∃ x, x < 1024 ∧ y = nI x := by
  have h1 : y.toBitVec.toNat < 2 ^ 10 := Nat.lt_pow_two_of_testBit _ (fun i hi => by
    by_cases h32 : i < 32
    · exact h i hi h32
    · exact b_big (x := y) (by omega))
  have h2 : y.toInt = (y.toBitVec.toNat : Int) := BitVec.toInt_eq_toNat_of_lt (x := y.toBitVec) (by omega)
  obtain ⟨k, hk, e⟩ := nI_of_rg (v := y) (n := 1023) (by omega) (by omega)
  exact ⟨k, by omega, e⟩
theorem m_ff4 : ∀ (d k f : Nat) (x : Int32), k + d = 16 → d < f → (∀ p, p < 16 → s (m + 1) (706 + 2 * p) = -1 ∨ ∃ q, q ≤ 9 ∧ s (m + 1) (706 + 2 * p) = nI q) → ∃ y, F_X11_freeFrames_4 n m f x (nI k) s = (F_X11_many n y s).bind (fun (r : Int32) => some ((10 : Int32) - r)) ∧ ∀ i, i < 32 → bt y i = (bt x i || (List.range' k d).any (fun p => decide (s (m + 1) (706 + 2 * p) = nI i))) := by
  intro d
  induction d with
  | zero =>
    intro k f x hk hf ht
    obtain ⟨f, rfl⟩ : ∃ z, f = z + 1 := ⟨f - 1, by omega⟩
    have : k = 16 := by omega
    subst this
    rw [F_X11_freeFrames_4, if_pos (by decide)]
    exact ⟨x, rfl, fun i _ => by simp⟩
  | succ d ih =>
    intro k f x hk hf ht
    obtain ⟨f, rfl⟩ : ∃ z, f = z + 1 := ⟨f - 1, by omega⟩
    rw [F_X11_freeFrames_4, if_neg (by rw [show (16 : Int32) = nI 16 from rfl]; exact nI_ge (by omega) (by omega)), m_to2 (show k < 16 by omega), Option.bind_some]
    simp only [F_X11_freeFrames_33, gw_let, nI_1, Option.bind_some]
    rcases ht k (by omega) with h0 | ⟨q, hq, h0⟩
    · rw [h0, if_neg (not_not_intro rfl), Int32.or_zero]
      obtain ⟨y, e1, e2⟩ := ih (k + 1) f x (by omega) (by omega) ht
      refine ⟨y, e1, fun i hi => ?_⟩
      have hm : ¬ (-1 : Int32) = nI i := fun c => by
        have := nI_m1 (k := i) (by omega)
        rw [eq_comm, this] at c
        exact c
      rw [e2 i hi, List.range'_succ, List.any_cons, h0, decide_eq_false hm, Bool.false_or]
    · rw [h0, if_pos (by rw [nI_m1 (by omega)]; exact id)]
      obtain ⟨y, e1, e2⟩ := ih (k + 1) f (x ||| ((1 : Int32) <<< (nI q &&& 31))) (by omega) (by omega) ht
      refine ⟨y, e1, fun i hi => ?_⟩
      rw [e2 i hi, b_set x (by omega) hi, List.range'_succ, List.any_cons, h0, Bool.or_assoc]
      congr 2
      rw [decide_eq_decide, nI_eqT (by omega) (by omega)]
      omega
theorem rd_ff (hn : 1000 ≤ n) (g : G b A m K N L3 L2 M s) : ∃ r, F_X4_framesFree n (A + 1) M = some r ∧ F_X11_freeFrames n m s = some r := by
  have ht := G_ht g
  obtain ⟨y, y1, y2⟩ := c_led (n := n) hn ht
  have ht2 : ∀ p, p < 16 → s (m + 1) (706 + 2 * p) = -1 ∨ ∃ q, q ≤ 9 ∧ s (m + 1) (706 + 2 * p) = nI q := fun p hp => by
    rw [G_rd g (gd_t2 p hp).1]; exact ht p hp
  obtain ⟨z, z1, z2⟩ := m_ff4 (n := n) 16 0 n 0 rfl (by omega) ht2
  have e : z = y := b_ext (fun i hi => by
    rw [z2 i hi, y2 i hi, b_0, Bool.false_or, ← range0, ← G_led g i, led])
  obtain ⟨x, hx, ex⟩ := small_ten (y := y) (fun i h1 h2 => by
    rw [y2 i h2]
    cases hl : led (M (A + 3)) i
    · rfl
    · obtain ⟨p, hp, c⟩ := led_true.mp hl
      rcases ht p hp with c2 | ⟨q, hq, c2⟩
      · rw [c2, eq_comm, nI_m1 (by omega)] at c
        exact c.elim
      · rw [c2, nI_eqT (by omega) (by omega)] at c
        omega)
  refine ⟨10 - pcnt x, ?_, ?_⟩
  · rw [F_X4_framesFree, y1, Option.bind_some, ex, c_bitCount n hx, Option.bind_some]
  · rw [F_X11_freeFrames, show F_X11_freeFrames_4 n m n 0 0 s = _ from z1, e, ex, m_many hn hx, Option.bind_some]
theorem rd_is (hn : 1000 ≤ n) (g : G b (A + 1) m K N L3 L2 M s) (v : Int32) : SAME (F_X10_is n A v M) (F_X11_is n m v s) := by
  obtain ⟨h, hh, h5, h15⟩ := G_hand g
  by_cases hv : 0 ≤ v.toInt ∧ v.toInt ≤ 17
  · obtain ⟨k, hk, rfl⟩ := nI_of_rg (v := v) (n := 17) hv.1 hv.2
    match k, hk with
    | 0, _ =>
      exact sm_eq (r := M (A + 1 + 0) 6) rfl (congrArg some (G_rd g (i := 2) (c := 0) (j := 6) (by decide +kernel)))
    | 1, _ =>
      exact sm_eq (r := M (A + 1 + 0) 7) rfl (congrArg some (G_rd g (i := 3) (c := 0) (j := 7) (by decide +kernel)))
    | 2, _ =>
      exact sm_eq (r := M (A + 1 + 0) 2) rfl (congrArg some (G_rd g (i := 4) (c := 0) (j := 2) (by decide +kernel)))
    | 3, _ =>
      obtain ⟨⟨q1, q2, q3, q4, q5⟩, -⟩ : gq_L (s (m + 1)) 754 786 23 L3 ∧ gq_O b (A + 1) 8 M L3 := G_q g 4 (by decide)
      refine sm_eq (r := nI L3.length) ?_ (congrArg some q4)
      show ((F_X8_size n (A + 1 + 8) M).bind (fun (r_5 : Int32) => some r_5)).bind (fun (r_1 : Int32) => some r_1) = _
      rw [c_size hn, len_eq q1 (fun p => ?_)]
      · rfl
      · rw [q2 p, decide_eq_true_iff]
        refine ⟨fun c => ⟨c.1, ?_⟩, fun c => ⟨c.1, ?_⟩⟩
        · rw [show A + 1 + 8 + 1 = A + 1 + 9 from rfl, ← G_rd g (gd_t2 p c.1).2.2.1]; exact c.2
        · rw [G_rd g (gd_t2 p c.1).2.2.1]; exact c.2
    | 4, _ =>
      obtain ⟨r, r1, r2⟩ := rd_ff hn g
      refine sm_eq (r := r) ?_ ?_
      · show ((F_X4_framesFree n (A + 1 + 1) M).bind (fun (r_10 : Int32) => some r_10)).bind (fun (r_1 : Int32) => some r_1) = _
        rw [r1]
        rfl
      · show (F_X11_freeFrames n m s).bind (fun (r_6 : Int32) => some r_6) = _
        rw [r2]
        rfl
    | 5, _ =>
      exact sm_eq (r := M (A + 1 + 30) 0) rfl (congrArg some (G_rd g (i := 5) (c := 30) (j := 0) (by decide +kernel)))
    | 6, _ =>
      exact sm_eq (r := M (A + 1 + 30) 1) rfl (congrArg some (G_rd g (i := 6) (c := 30) (j := 1) (by decide +kernel)))
    | 7, _ =>
      exact sm_eq (r := M (A + 1 + 25) 9) rfl (congrArg some (G_rd g (i := 7) (c := 25) (j := 9) (by decide +kernel)))
    | 8, _ =>
      exact sm_eq (r := M (A + 1 + 1) 5) rfl (congrArg some (G_rd g (i := 8) (c := 1) (j := 5) (by decide +kernel)))
    | 9, _ =>
      exact sm_eq (r := M (A + 1 + 34) 0) rfl (congrArg some (G_rd g (i := 9) (c := 34) (j := 0) (by decide +kernel)))
    | 10, _ =>
      exact sm_eq (r := M (A + 1 + 34) 1) rfl (congrArg some (G_rd g (i := 10) (c := 34) (j := 1) (by decide +kernel)))
    | 11, _ =>
      exact sm_eq (r := M (A + 1 + 13) 4) rfl (congrArg some (G_rd g (i := 63) (c := 13) (j := 4) (by decide +kernel)))
    | 12, _ =>
      have hm := (m_guestAt (n := n) (s := s) (m := m) (gu := 2) (Or.inr ⟨rfl, h, hh, h15, rfl⟩)).1
      have d := G_rd g (gd_g (1 + h) (by omega)).2.2.2.2.2.1
      refine sm_eq (r := M (A + 1 + (gg_c (1 + h) + 1)) 4) ?_ ?_
      · show ((if 0 ≤ (M (A + 1) 5) ∧ (M (A + 1) 5).toNatClampNeg < 3 then gw_let (A + 1 + 37 + 15 * (M (A + 1) 5).toNatClampNeg) (fun (q_23 : Nat) => some (M (q_23 + 2) 4)) else none).bind (fun (r_1 : Int32) => some r_1)) = _
        rw [h5, gi hh (by decide), nI_clamp (by omega)]
        simp only [gw_let, Option.bind_some]
        rw [show A + 1 + 37 + 15 * h + 2 = A + 1 + (gg_c (1 + h) + 1) by
          unfold gg_c
          rw [if_neg (by omega)]
          omega]
      · show (F_X11_guestAt n m 2 s).bind (fun (r_23 : Int32) => (if 0 ≤ (r_23 + (5 : Int32)) ∧ (r_23 + (5 : Int32)).toNatClampNeg < 20813 then some (s (m + 1) (r_23 + (5 : Int32)).toNatClampNeg) else none)) = _
        rw [hm, Option.bind_some, show (5 : Int32) = nI 5 from rfl, nI_add, gi (by omega) (by decide), nI_clamp (by omega), show 58 + 162 * (1 + h) + 5 = 63 + 162 * (1 + h) by omega, d]
    | 13, _ =>
      exact sm_eq (r := M (A + 1 + 0) 10) rfl (congrArg some (G_rd g (i := 11) (c := 0) (j := 10) (by decide +kernel)))
    | 14, _ =>
      exact sm_eq (r := M (A + 1 + 0) 11) rfl (congrArg some (G_rd g (i := 12) (c := 0) (j := 11) (by decide +kernel)))
    | 15, _ =>
      exact sm_eq (r := M (A + 1 + 25) 5) rfl (congrArg some (G_rd g (i := 13) (c := 25) (j := 5) (by decide +kernel)))
    | 16, _ =>
      exact sm_eq (r := M (A + 1 + 25) 6) rfl (congrArg some (G_rd g (i := 14) (c := 25) (j := 6) (by decide +kernel)))
    | 17, _ =>
      exact sm_eq (r := M (A + 1 + 0) 5) rfl (congrArg some (G_rd g (i := 15) (c := 0) (j := 5) (by decide +kernel)))
    | k + 18, hk => exact absurd hk (by omega)
  · have ne : ∀ k, k ≤ 17 → ¬ v = nI k := fun k hk c => hv (by rw [c, nI_toInt (by omega)]; omega)
    have o1 : isin v 5 10 = 0 := isin_no (by
      have e5 : (5 : Int32).toInt = 5 := by decide
      have e10 : (10 : Int32).toInt = 10 := by decide
      omega)
    have o2 : isin v 13 16 = 0 := isin_no (by
      have e5 : (13 : Int32).toInt = 13 := by decide
      have e10 : (16 : Int32).toInt = 16 := by decide
      omega)
    have last : F_X11_is_156 n m v s = some (-1) := by
      simp only [F_X11_is_156, m_isIn, Option.bind_some]
      rw [o1, o2]
      rfl
    refine sm_eq (r := -1) ?_ ?_
    · rw [F_X10_is, F_X3_figure, if_neg (show ¬ v = (0 : Int32) from ne 0 (by decide)), if_neg (show ¬ v = ((0 : Int32) + 1) from ne 1 (by decide)), if_neg (show ¬ v = (((0 : Int32) + 1) + 1) from ne 2 (by decide)), if_neg (show ¬ v = ((((0 : Int32) + 1) + 1) + 1) from ne 3 (by decide)), if_neg (show ¬ v = (((((0 : Int32) + 1) + 1) + 1) + 1) from ne 4 (by decide)), if_neg (show ¬ v = ((((((0 : Int32) + 1) + 1) + 1) + 1) + 1) from ne 5 (by decide)), if_neg (show ¬ v = (((((((0 : Int32) + 1) + 1) + 1) + 1) + 1) + 1) from ne 6 (by decide)), if_neg (show ¬ v = ((((((((0 : Int32) + 1) + 1) + 1) + 1) + 1) + 1) + 1) from ne 7 (by decide)), if_neg (show ¬ v = (((((((((0 : Int32) + 1) + 1) + 1) + 1) + 1) + 1) + 1) + 1) from ne 8 (by decide)), if_neg (show ¬ v = ((((((((((0 : Int32) + 1) + 1) + 1) + 1) + 1) + 1) + 1) + 1) + 1) from ne 9 (by decide)), if_neg (show ¬ v = (((((((((((0 : Int32) + 1) + 1) + 1) + 1) + 1) + 1) + 1) + 1) + 1) + 1) from ne 10 (by decide)), if_neg (show ¬ v = ((((((((((((0 : Int32) + 1) + 1) + 1) + 1) + 1) + 1) + 1) + 1) + 1) + 1) + 1) from ne 11 (by decide)), if_neg (show ¬ v = (((((((((((((0 : Int32) + 1) + 1) + 1) + 1) + 1) + 1) + 1) + 1) + 1) + 1) + 1) + 1) from ne 12 (by decide)), if_neg (show ¬ v = ((((((((((((((0 : Int32) + 1) + 1) + 1) + 1) + 1) + 1) + 1) + 1) + 1) + 1) + 1) + 1) + 1) from ne 13 (by decide)), if_neg (show ¬ v = (((((((((((((((0 : Int32) + 1) + 1) + 1) + 1) + 1) + 1) + 1) + 1) + 1) + 1) + 1) + 1) + 1) + 1) from ne 14 (by decide)), if_neg (show ¬ v = ((((((((((((((((0 : Int32) + 1) + 1) + 1) + 1) + 1) + 1) + 1) + 1) + 1) + 1) + 1) + 1) + 1) + 1) + 1) from ne 15 (by decide)), if_neg (show ¬ v = (((((((((((((((((0 : Int32) + 1) + 1) + 1) + 1) + 1) + 1) + 1) + 1) + 1) + 1) + 1) + 1) + 1) + 1) + 1) + 1) from ne 16 (by decide)), if_neg (show ¬ v = ((((((((((((((((((0 : Int32) + 1) + 1) + 1) + 1) + 1) + 1) + 1) + 1) + 1) + 1) + 1) + 1) + 1) + 1) + 1) + 1) + 1) from ne 17 (by decide))]
      rfl
    · rw [F_X11_is, if_neg (show ¬ v = (0 : Int32) from ne 0 (by decide)), if_neg (show ¬ v = ((0 : Int32) + 1) from ne 1 (by decide)), if_neg (show ¬ v = (((0 : Int32) + 1) + 1) from ne 2 (by decide)), if_neg (show ¬ v = ((((0 : Int32) + 1) + 1) + 1) from ne 3 (by decide)), if_neg (show ¬ v = (((((0 : Int32) + 1) + 1) + 1) + 1) from ne 4 (by decide)), if_neg (show ¬ v = ((((((0 : Int32) + 1) + 1) + 1) + 1) + 1) from ne 5 (by decide)), if_neg (show ¬ v = (((((((0 : Int32) + 1) + 1) + 1) + 1) + 1) + 1) from ne 6 (by decide)), if_neg (show ¬ v = ((((((((0 : Int32) + 1) + 1) + 1) + 1) + 1) + 1) + 1) from ne 7 (by decide)), if_neg (show ¬ v = (((((((((0 : Int32) + 1) + 1) + 1) + 1) + 1) + 1) + 1) + 1) from ne 8 (by decide)), if_neg (show ¬ v = ((((((((((0 : Int32) + 1) + 1) + 1) + 1) + 1) + 1) + 1) + 1) + 1) from ne 9 (by decide)), if_neg (show ¬ v = (((((((((((0 : Int32) + 1) + 1) + 1) + 1) + 1) + 1) + 1) + 1) + 1) + 1) from ne 10 (by decide)), if_neg (show ¬ v = ((((((((((((0 : Int32) + 1) + 1) + 1) + 1) + 1) + 1) + 1) + 1) + 1) + 1) + 1) from ne 11 (by decide)), if_neg (show ¬ v = (((((((((((((0 : Int32) + 1) + 1) + 1) + 1) + 1) + 1) + 1) + 1) + 1) + 1) + 1) + 1) from ne 12 (by decide)), if_neg (show ¬ v = ((((((((((((((0 : Int32) + 1) + 1) + 1) + 1) + 1) + 1) + 1) + 1) + 1) + 1) + 1) + 1) + 1) from ne 13 (by decide)), if_neg (show ¬ v = (((((((((((((((0 : Int32) + 1) + 1) + 1) + 1) + 1) + 1) + 1) + 1) + 1) + 1) + 1) + 1) + 1) + 1) from ne 14 (by decide)), if_neg (show ¬ v = ((((((((((((((((0 : Int32) + 1) + 1) + 1) + 1) + 1) + 1) + 1) + 1) + 1) + 1) + 1) + 1) + 1) + 1) + 1) from ne 15 (by decide)), if_neg (show ¬ v = (((((((((((((((((0 : Int32) + 1) + 1) + 1) + 1) + 1) + 1) + 1) + 1) + 1) + 1) + 1) + 1) + 1) + 1) + 1) + 1) from ne 16 (by decide)), if_neg (show ¬ v = ((((((((((((((((((0 : Int32) + 1) + 1) + 1) + 1) + 1) + 1) + 1) + 1) + 1) + 1) + 1) + 1) + 1) + 1) + 1) + 1) + 1) from ne 17 (by decide)), last]
end RD5
