/-! ===== calls that only read (7) ===== -/
section RD7
variable {b A m n h a : Nat} {K N M s : gw_M} {L3 L2 : List Nat}
theorem c_exb {v : Int32} {c : Nat} (hc : c ≤ 24) (hk : F_X2_exitsKept n a M = some (nI c)) : ∀ (d k f acc : Nat), k + d = c → d < f → F_X2_exitsBy_4 n a f v (nI acc) (nI k) M = some (nI (acc + cnt24 (fun i => decide (M (a + 2) i = v)) k d)) := by
  intro d
  induction d with
  | zero =>
    intro k f acc hkd hf
    obtain ⟨f, rfl⟩ : ∃ z, f = z + 1 := ⟨f - 1, by omega⟩
    obtain rfl : k = c := by omega
    rw [F_X2_exitsBy_4, hk, Option.bind_some, if_pos (by rw [nI_leT (by omega) (by omega)]; omega)]
    rfl
  | succ d ih =>
    intro k f acc hkd hf
    obtain ⟨f, rfl⟩ : ∃ z, f = z + 1 := ⟨f - 1, by omega⟩
    rw [F_X2_exitsBy_4, hk, Option.bind_some, if_neg (by rw [nI_leT (by omega) (by omega)]; omega), gi (by omega) (by decide), nI_clamp (by omega)]
    simp only [F_X2_exitsBy_25, gw_let, nI_1]
    rw [show cnt24 (fun i => decide (M (a + 2) i = v)) k (d + 1) = (if decide (M (a + 2) (k % 24) = v) then 1 else 0) + cnt24 (fun i => decide (M (a + 2) i = v)) (k + 1) d from rfl, Nat.mod_eq_of_lt (show k < 24 by omega)]
    by_cases h0 : M (a + 2) k = v
    · rw [if_neg (not_not_intro h0), ih (k + 1) f (acc + 1) (by omega) (by omega), if_pos (decide_eq_true h0), Nat.add_assoc]
    · rw [if_pos h0, ih (k + 1) f acc (by omega) (by omega), if_neg (by simp [h0]), Nat.zero_add]
theorem m_exb {v : Int32} {c o : Nat} (hc : c ≤ 24) (h25 : s (m + 1) 25 = nI c) (hx : ∀ i, i < c → s (m + 1) (861 + 4 * i + 1) = M (a + 2) ((o + i) % 24)) : ∀ (d k f acc : Nat), k + d = c → d < f → F_X11_exits_4 n m f v (nI acc) (nI k) s = some (nI (acc + cnt24 (fun i => decide (M (a + 2) i = v)) (o + k) d)) := by
  intro d
  induction d with
  | zero =>
    intro k f acc hkd hf
    obtain ⟨f, rfl⟩ : ∃ z, f = z + 1 := ⟨f - 1, by omega⟩
    obtain rfl : k = c := by omega
    rw [F_X11_exits_4, h25, if_pos (by rw [nI_leT (by omega) (by omega)]; omega)]
    rfl
  | succ d ih =>
    intro k f acc hkd hf
    obtain ⟨f, rfl⟩ : ∃ z, f = z + 1 := ⟨f - 1, by omega⟩
    rw [F_X11_exits_4, h25, if_neg (by rw [nI_leT (by omega) (by omega)]; omega), show (861 : Int32) = nI 861 from rfl, show (4 : Int32) = nI 4 from rfl, pk_mul, nI_add, nI_1, gi (by omega) (by decide), nI_clamp (by omega), hx k (by omega)]
    simp only [F_X11_exits_39, gw_let, nI_1, nI_add0]
    rw [show cnt24 (fun i => decide (M (a + 2) i = v)) (o + k) (d + 1) = (if decide (M (a + 2) ((o + k) % 24) = v) then 1 else 0) + cnt24 (fun i => decide (M (a + 2) i = v)) (o + k + 1) d from rfl]
    by_cases h0 : M (a + 2) ((o + k) % 24) = v
    · rw [if_neg (not_not_intro h0), ih (k + 1) f (acc + 1) (by omega) (by omega), if_pos (decide_eq_true h0), Nat.add_assoc, Nat.add_assoc]
    · rw [if_pos h0, ih (k + 1) f acc (by omega) (by omega), if_neg (by simp [h0]), Nat.zero_add, Nat.add_assoc]
theorem rd_exits (hn : 1000 ≤ n) (g : G b (A + 1) m K N L3 L2 M s) (v : Int32) : SAME (F_X10_exits n A v M) (F_X11_exits n m v s) := by
  obtain ⟨n5, n6, q1, q2, q3, q4, q5, q6⟩ : gq_X b (A + 1) M (s (m + 1)) := G_q g 6 (by decide)
  have hb := G_b g
  have a1 : M (A + 31) 0 = nI n5 := (G_rd g (i := 5) (c := 30) (j := 0) (by decide +kernel)).symm.trans q1
  have a2 : M (A + 31) 1 = nI n6 := (G_rd g (i := 6) (c := 30) (j := 1) (by decide +kernel)).symm.trans q2
  have a3 : F_X2_allExits n (A + 26) M = some (nI (n5 + n6)) := by
    show some (M (A + 31) 0 + M (A + 31) 1) = _
    rw [a1, a2, nI_add]
  have a4 : F_X2_exitsKept n (A + 26) M = some (nI (min (n5 + n6) 24)) := by
    rw [F_X2_exitsKept, a3, Option.bind_some, c_min24 (by omega), Option.bind_some]
  have e1 := c_exb (v := v) (by omega) a4 (min (n5 + n6) 24) 0 n 0 (by omega) (by omega)
  have e2 := m_exb (n := n) (v := v) (M := M) (a := A + 26) (o := n5 + n6 - min (n5 + n6) 24) (by omega) q5 (fun i hi => q6 i 1 (by decide) hi) (min (n5 + n6) 24) 0 n 0 (by omega) (by omega)
  rw [Nat.zero_add] at e2
  rw [Nat.zero_add] at e1
  have e3 : cnt24 (fun i => decide (M (A + 26 + 2) i = v)) (n5 + n6 - min (n5 + n6) 24 + 0) (min (n5 + n6) 24) = cnt24 (fun i => decide (M (A + 26 + 2) i = v)) 0 (min (n5 + n6) 24) := by
    by_cases hN : n5 + n6 ≤ 24
    · rw [Nat.min_eq_left hN, Nat.sub_self]
    · rw [Nat.min_eq_right (by omega), cnt24_rot]
  rw [e3] at e2
  refine sm_eq (r := nI (cnt24 (fun i => decide (M (A + 26 + 2) i = v)) 0 (min (n5 + n6) 24))) ?_ e2
  rw [F_X10_exits, F_X2_exitsBy, show F_X2_exitsBy_4 n (A + 26) n v 0 0 M = _ from e1, Option.bind_some]
theorem m_ent4 {B : Nat} (hB : B < 900) : ∀ (d k f c : Nat), k + d = 16 → d < f → F_X11_entriesFrom_4 n m f (nI B) (nI c) (nI k) s = some (nI (c + ((List.range' k d).filter (fun p => decide (s (m + 1) (B + 2 * p) ≠ -1))).length)) := by
  intro d
  induction d with
  | zero =>
    intro k f c hk hf
    obtain ⟨f, rfl⟩ : ∃ z, f = z + 1 := ⟨f - 1, by omega⟩
    have : k = 16 := by omega
    subst this
    rw [F_X11_entriesFrom_4, if_pos (by decide)]
    rfl
  | succ d ih =>
    intro k f c hk hf
    obtain ⟨f, rfl⟩ : ∃ z, f = z + 1 := ⟨f - 1, by omega⟩
    rw [F_X11_entriesFrom_4, if_neg (by rw [show (16 : Int32) = nI 16 from rfl]; exact nI_ge (by omega) (by omega)), show (2 : Int32) = nI 2 from rfl, pk_mul, nI_add, gi (by omega) (by decide), nI_clamp (by omega)]
    simp only [F_X11_entriesFrom_30, gw_let, nI_1, nI_add0]
    rw [List.range'_succ, List.filter_cons]
    by_cases h0 : s (m + 1) (B + 2 * k) = -1
    · rw [if_neg (not_not_intro h0), ih (k + 1) f c (by omega) (by omega), if_neg (by simp [h0])]
    · rw [if_pos h0, ih (k + 1) f (c + 1) (by omega) (by omega), if_pos (by simp [h0]), List.length_cons]
      congr 2
      omega
theorem rd_ent (hn : 1000 ≤ n) (g : G b A m K N L3 L2 M s) {k t : Nat} (hk : k < 3) (ht : t < 2) : ∃ r, F_X8_size n (A + 44 + 15 * k + 4 * t) M = some r ∧ F_X11_entriesFrom n m (nI (299 + 162 * k + 32 * t)) s = some r := by
  refine ⟨_, c_size hn, ?_⟩
  have e := m_ent4 (n := n) (m := m) (s := s) (B := 299 + 162 * k + 32 * t) (by omega) 16 0 n 0 rfl (by omega)
  rw [F_X11_entriesFrom, show F_X11_entriesFrom_4 n m n (nI (299 + 162 * k + 32 * t)) 0 0 s = _ from e, Nat.zero_add, ← range0]
  congr 3
  refine List.filter_congr (fun p hp => ?_)
  rw [G_rd g (gd_e hk ht (List.mem_range.mp hp)).1, show A + (45 + 15 * k + 4 * t) = A + 44 + 15 * k + 4 * t + 1 by omega]
theorem rd_putBy (hn : 1000 ≤ n) (g : G b (A + 1) m K N L3 L2 M s) (v w : Int32) : SAME (F_X10_putBy n A v w M) (F_X11_putBy n m v w s) := by
  have e15 : s (m + 1) 15 = M (A + 1) 5 := G_rd g (i := 15) (c := 0) (j := 5) (by decide +kernel)
  simp only [F_X10_putBy, F_X11_putBy, F_X10_isInnerGuest, c_within, m_isIn, Option.bind_some, e15]
  rcases in_c v 2 (by decide) 2 rfl with hv | ⟨hv, k, hk, rfl⟩
  · rw [hv]; exact sm_eq rfl rfl
  · rw [hv, if_neg (show ¬ (1 : Int32) = 0 by decide), if_neg (show ¬ (1 : Int32) = 0 by decide)]
    by_cases hq : nI k = M (A + 1) 5
    · rw [if_neg (not_not_intro hq), if_neg (not_not_intro hq)]; exact sm_eq rfl rfl
    · rw [if_pos hq, if_pos hq, gi (k := k) (by omega) (by decide), nI_clamp (show k < 2 ^ 31 by omega), show (58 : Int32) + (162 : Int32) * ((1 : Int32) + nI k) = nI (58 + 162 * (1 + k)) by
        rw [show (58 : Int32) = nI 58 from rfl, show (162 : Int32) = nI 162 from rfl, show (1 : Int32) = nI 1 from rfl, nI_add, pk_mul, nI_add]]
      simp only [gw_let]
      have hc : gg_c (1 + k) = 38 + 15 * k := by
        unfold gg_c
        rw [if_neg (by omega)]
        omega
      obtain ⟨d1, d2, d3, -, -, d6, d7⟩ := gd_g (1 + k) (by omega)
      rw [hc] at d1 d2 d3 d6 d7
      have r1 := G_rd g d1
      have r2 := G_rd g d2
      have r6 := G_rd g d6
      have r7 := G_rd g d7
      obtain ⟨y, hy, y1, y2⟩ := G_n g d3 (n := 1) (gd_gq (1 + k) (by omega)).1
      rw [show A + 1 + (38 + 15 * k) = A + 38 + 15 * k + 1 by omega] at r1 r2 y1
      rw [show A + 1 + (38 + 15 * k + 1) = A + 38 + 15 * k + 2 by omega] at r6 r7
      by_cases h0 : w = 0
      · subst h0
        obtain ⟨r, c1, c2⟩ := rd_ent hn g (k := k) (t := 0) (by omega) (by decide)
        refine sm_eq (r := r) ?_ ?_
        · rw [if_pos rfl, show A + 38 + 15 * k + 7 = A + 1 + 44 + 15 * k + 4 * 0 by omega, c1]; rfl
        · rw [if_pos rfl, F_X11_putBy_76, show nI (58 + 162 * (1 + k)) + 79 + 32 * (0 : Int32) = nI (299 + 162 * k + 32 * 0) by
            rw [show (79 : Int32) = nI 79 from rfl, show (32 : Int32) * 0 = nI 0 from rfl, nI_add, nI_add]
            congr 1
            omega, c2]
          rfl
      · rw [if_neg h0, if_neg h0]
        by_cases h1 : w = (0 : Int32) + 1
        · subst h1
          obtain ⟨r, c1, c2⟩ := rd_ent hn g (k := k) (t := 1) (by omega) (by decide)
          refine sm_eq (r := r) ?_ ?_
          · rw [if_pos rfl, show A + 38 + 15 * k + 11 = A + 1 + 44 + 15 * k + 4 * 1 by omega, c1]; rfl
          · rw [if_pos rfl, F_X11_putBy_76, show nI (58 + 162 * (1 + k)) + 79 + 32 * ((0 : Int32) + 1) = nI (299 + 162 * k + 32 * 1) by
              rw [show (79 : Int32) = nI 79 from rfl, show (32 : Int32) * ((0 : Int32) + 1) = nI 32 from rfl, nI_add, nI_add]
              congr 1
              omega, c2]
            rfl
        · rw [if_neg h1, if_neg h1, show nI (58 + 162 * (1 + k)) + 5 = nI (63 + 162 * (1 + k)) by
            rw [show (5 : Int32) = nI 5 from rfl, nI_add]; congr 1; omega, show nI (58 + 162 * (1 + k)) + 1 = nI (59 + 162 * (1 + k)) by
            rw [nI_1]; congr 1; omega, show nI (58 + 162 * (1 + k)) + 2 = nI (60 + 162 * (1 + k)) by
            rw [show (2 : Int32) = nI 2 from rfl, nI_add]; congr 1; omega, show nI (58 + 162 * (1 + k)) + 6 = nI (64 + 162 * (1 + k)) by
            rw [show (6 : Int32) = nI 6 from rfl, nI_add]; congr 1; omega, nI_add0, gi (k := 63 + 162 * (1 + k)) (by omega) (by decide), gi (k := 58 + 162 * (1 + k)) (by omega) (by decide), gi (k := 59 + 162 * (1 + k)) (by omega) (by decide), gi (k := 60 + 162 * (1 + k)) (by omega) (by decide), gi (k := 64 + 162 * (1 + k)) (by omega) (by decide), nI_clamp (show 63 + 162 * (1 + k) < 2 ^ 31 by omega), nI_clamp (show 58 + 162 * (1 + k) < 2 ^ 31 by omega), nI_clamp (show 59 + 162 * (1 + k) < 2 ^ 31 by omega), nI_clamp (show 60 + 162 * (1 + k) < 2 ^ 31 by omega), nI_clamp (show 64 + 162 * (1 + k) < 2 ^ 31 by omega), r1, r2, r6, r7, y1, y2]
          have e0 : (if nI y = 0 then some (0 : Int32) else some 1) = some (nI y) := by
            match y, hy with
            | 0, _ => rfl
            | 1, _ => rfl
          rw [e0]
          split
          · exact sm_eq rfl rfl
          · split
            · exact sm_eq rfl rfl
            · split
              · exact sm_eq rfl rfl
              · split
                · exact sm_eq rfl rfl
                · split
                  · exact sm_eq rfl rfl
                  · exact sm_eq rfl rfl
end RD7
