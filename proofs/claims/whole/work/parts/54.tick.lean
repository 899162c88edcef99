/-! ===== timers gone, time goes on ===== -/
def crm (e c i : Nat) (μ : gw_M) : gw_M := fun a j => if a = e + 21 ∧ j = 3 then nI (c - 1) else if (e + 22 ≤ a ∧ a < e + 25) ∧ i ≤ j ∧ j < c - 1 then μ a (j + 1) else μ a j
def mrm (m c i : Nat) (s s' : gw_M) : Prop := ∀ a j, s' a j = if a = m + 1 ∧ j = 26 then nI (c - 1) else if a = m + 1 ∧ 957 + 3 * i ≤ j ∧ j < 957 + 3 * (c - 1) then s a (j + 3) else if a = m + 1 ∧ 957 + 3 * (c - 1) ≤ j ∧ j < 957 + 3 * c then 0 else s a j
theorem cpy_at (μ : gw_M) (a sp dp n x y : Nat) : gw_cpy μ a a sp dp n x y = if x = a ∧ dp ≤ y ∧ y < dp + n then μ a (sp + (y - dp)) else μ x y := by
  simp only [gw_cpy, gw_row, va_cpy]
  by_cases hx : x = a
  · subst hx
    simp
  · rw [if_neg hx, if_neg (fun c => hx c.1)]
theorem J3_nb : ∀ k, k < 9 → k ≠ 3 → ∀ c j, 22 ≤ c → c < 25 → nb k c j = false := by
  intro k hk hk3 c j h1 h2
  have : c = 22 ∨ c = 23 ∨ c = 24 := by omega
  rcases this with rfl | rfl | rfl
  all_goals
    match k, hk, hk3 with
    | 0, _, _ => rfl
    | 1, _, _ => rfl
    | 2, _, _ => rfl
    | 4, _, _ => rfl
    | 5, _, _ => rfl
    | 6, _, _ => rfl
    | 7, _, _ => rfl
    | 8, _, _ => rfl
def J3 (i : Nat) : Bool := decide (957 ≤ i) && decide (i < 993)
theorem J3_na : ∀ k < 9, k ≠ 3 → ∀ i < 993, J3 i = true → na k i = false := by decide +kernel
theorem J3_gd : ∀ i < 993, J3 i = true → gd i = none := by decide +kernel
section TICK
variable {b e m n h : Nat} {K N : gw_M} {L3 L2 L : List Nat} {μ s : gw_M}
theorem c_remove {c i : Nat} (hc : μ (e + 21) 3 = nI c) (hi : i < c) (hc12 : c ≤ 12) : F_X9_removeAt n (e + 21) (nI i) μ = some (crm e c i μ) := by
  have hw : nI c - 1 - nI i = nI (c - 1 - i) := by
    obtain ⟨z, rfl⟩ : ∃ z, c = z + 1 := ⟨c - 1, by omega⟩
    rw [nI_pred, pk_sub (by omega)]
    rfl
  have hcd : 0 ≤ nI (i + 1) ∧ 0 ≤ nI i ∧ 0 ≤ nI (c - 1 - i) ∧ i + (1 + (c - 1 - i)) ≤ 12 ∧ i + (c - 1 - i) ≤ 12 := ⟨nI_pos' (by omega), nI_pos' (by omega), nI_pos' (by omega), by omega, by omega⟩
  simp only [F_X9_removeAt, gw_let, hc, hw, nI_1, nI_clamp (show i + 1 < 2 ^ 31 by omega), nI_clamp (show i < 2 ^ 31 by omega), nI_clamp (show c - 1 - i < 2 ^ 31 by omega), Nat.add_assoc, Nat.reduceAdd]
  rw [if_pos hcd, if_pos hcd, if_pos hcd]
  congr 1
  funext a j
  unfold crm
  rw [up_at]
  by_cases h0 : a = e + 21 ∧ j = 3
  · rw [if_pos h0, if_pos h0, cpy_at, if_neg (by omega), cpy_at, if_neg (by omega), cpy_at, if_neg (by omega), hc]
    obtain ⟨z, rfl⟩ : ∃ z, c = z + 1 := ⟨c - 1, by omega⟩
    rw [nI_pred]
    rfl
  · rw [if_neg h0, if_neg h0, cpy_at]
    by_cases h24 : a = e + 24 ∧ i ≤ j ∧ j < i + (c - 1 - i)
    · rw [if_pos h24, if_pos (by omega), cpy_at, if_neg (by omega), cpy_at, if_neg (by omega), h24.1]
      congr 1
      omega
    · rw [if_neg h24, cpy_at]
      by_cases h23 : a = e + 23 ∧ i ≤ j ∧ j < i + (c - 1 - i)
      · rw [if_pos h23, if_pos (by omega), cpy_at, if_neg (by omega), h23.1]
        congr 1
        omega
      · rw [if_neg h23, cpy_at]
        by_cases h22 : a = e + 22 ∧ i ≤ j ∧ j < i + (c - 1 - i)
        · rw [if_pos h22, if_pos (by omega), h22.1]
          congr 1
          omega
        · rw [if_neg h22, if_neg (by omega)]
theorem m_dt8 {c : Nat} (hc0 : 1 ≤ c) (hc12 : c ≤ 12) : ∀ (d k f : Nat) (s : gw_M), k + d = 954 + 3 * c → 957 ≤ k → d < f → s (m + 1) 26 = nI c → ∃ s1, F_X11_dropTimer_8 n m f (nI k) s = F_X11_dropTimer_60 n m n 0 (gw_up s1 (m + 1) 26 (nI (c - 1))) ∧ ∀ a j, s1 a j = if a = m + 1 ∧ k ≤ j ∧ j < 954 + 3 * c then s a (j + 3) else s a j := by
  have hb : (957 : Int32) + (3 : Int32) * nI c - (3 : Int32) = nI (954 + 3 * c) := by
    rw [show (957 : Int32) = nI 957 from rfl, show (3 : Int32) = nI 3 from rfl, pk_mul, nI_add, pk_sub (by omega)]
    congr 1
    omega
  have hp : nI c - 1 = nI (c - 1) := by
    obtain ⟨z, rfl⟩ : ∃ z, c = z + 1 := ⟨c - 1, by omega⟩
    rw [nI_pred]
    rfl
  intro d
  induction d with
  | zero =>
    intro k f s hk hk2 hf h26
    obtain ⟨f, rfl⟩ : ∃ z, f = z + 1 := ⟨f - 1, by omega⟩
    rw [F_X11_dropTimer_8, h26, hb, if_pos (nI_le (by omega) (by omega)), hp]
    exact ⟨s, rfl, fun a j => by rw [if_neg (by omega)]⟩
  | succ d ih =>
    intro k f s hk hk2 hf h26
    obtain ⟨f, rfl⟩ : ∃ z, f = z + 1 := ⟨f - 1, by omega⟩
    rw [F_X11_dropTimer_8, h26, hb, if_neg (nI_ge (by omega) (by omega))]
    simp only [gw_let, show (3 : Int32) = nI 3 from rfl, nI_add, nI_1, nI_clamp (show k < 2 ^ 31 by omega), nI_clamp (show k + 3 < 2 ^ 31 by omega)]
    rw [if_pos ⟨nI_pos' (by omega), by omega⟩, if_pos ⟨nI_pos' (by omega), by omega⟩]
    obtain ⟨s1, e1, e2⟩ := ih (k + 1) f (gw_up s (m + 1) k (s (m + 1) (k + 3))) (by omega) (by omega) (by omega) (by rw [up_ne (by omega)]; exact h26)
    refine ⟨s1, e1, fun a j => ?_⟩
    rw [e2 a j]
    by_cases h1 : a = m + 1 ∧ k + 1 ≤ j ∧ j < 954 + 3 * c
    · rw [if_pos h1, if_pos ⟨h1.1, by omega, h1.2.2⟩, up_at, if_neg (by omega)]
    · rw [if_neg h1, up_at]
      by_cases h2 : a = m + 1 ∧ j = k
      · rw [if_pos h2, if_pos ⟨h2.1, by omega, by omega⟩, h2.1, h2.2]
      · rw [if_neg h2, if_neg (by omega)]
theorem m_dt60 (hn : 1000 ≤ n) {z : Nat} (hz : z ≤ 11) (h26 : s (m + 1) 26 = nI z) : F_X11_dropTimer_60 n m n 0 s = some (gw_up (gw_up (gw_up s (m + 1) (957 + 3 * z) 0) (m + 1) (958 + 3 * z) 0) (m + 1) (959 + 3 * z) 0) := by
  have st : ∀ (w f : Nat) (s0 : gw_M), w < 3 → s0 (m + 1) 26 = nI z → F_X11_dropTimer_60 n m (f + 1) (nI w) s0 = F_X11_dropTimer_60 n m f (nI (w + 1)) (gw_up s0 (m + 1) (957 + 3 * z + w) 0) := by
    intro w f s0 hw h0
    rw [F_X11_dropTimer_60, if_neg (by rw [show (3 : Int32) = nI 3 from rfl]; exact nI_ge (by omega) (by omega)), h0]
    simp only [gw_let, show (957 : Int32) = nI 957 from rfl, show (3 : Int32) = nI 3 from rfl, pk_mul, nI_add, nI_1, nI_clamp (show 957 + 3 * z + w < 2 ^ 31 by omega)]
    rw [if_pos ⟨nI_pos' (by omega), by omega⟩]
  obtain ⟨f, rfl⟩ : ∃ f, n = f + 1 + 1 + 1 + 1 := ⟨n - 4, by omega⟩
  have e0 := st 0 (f + 1 + 1 + 1) s (by decide) h26
  have e1 := st 1 (f + 1 + 1) (gw_up s (m + 1) (957 + 3 * z + 0) 0) (by decide) (by rw [up_ne (by omega)]; exact h26)
  have e2 := st 2 (f + 1) (gw_up (gw_up s (m + 1) (957 + 3 * z + 0) 0) (m + 1) (957 + 3 * z + 1) 0) (by decide) (by rw [up_ne (by omega), up_ne (by omega)]; exact h26)
  have e0' : F_X11_dropTimer_60 (f + 1 + 1 + 1 + 1) m (f + 1 + 1 + 1 + 1) 0 s = _ := e0
  rw [e0', e1, e2, F_X11_dropTimer_60, if_pos (by decide), show 957 + 3 * z + 0 = 957 + 3 * z by omega, show 957 + 3 * z + 1 = 958 + 3 * z by omega, show 957 + 3 * z + 2 = 959 + 3 * z by omega]
theorem m_drop (hn : 1000 ≤ n) {c i : Nat} (hc : s (m + 1) 26 = nI c) (hi : i < c) (hc12 : c ≤ 12) : ∃ s', F_X11_dropTimer n m (nI i) s = some s' ∧ mrm m c i s s' := by
  obtain ⟨s1, e1, e2⟩ := m_dt8 (n := n) (m := m) (c := c) (by omega) hc12 (954 + 3 * c - (957 + 3 * i)) (957 + 3 * i) n s (by omega) (by omega) (by omega) hc
  have e3 := m_dt60 (n := n) (m := m) (s := gw_up s1 (m + 1) 26 (nI (c - 1))) hn (z := c - 1) (by omega) (up_eq ⟨rfl, rfl⟩)
  refine ⟨gw_up (gw_up (gw_up (gw_up s1 (m + 1) 26 (nI (c - 1))) (m + 1) (957 + 3 * (c - 1)) 0) (m + 1) (958 + 3 * (c - 1)) 0) (m + 1) (959 + 3 * (c - 1)) 0, ?_, ?_⟩
  · simp only [F_X11_dropTimer, gw_let, show (957 : Int32) = nI 957 from rfl, show (3 : Int32) = nI 3 from rfl, pk_mul, nI_add]
    rw [e1, e3]
  · intro a j
    by_cases h0 : a = m + 1 ∧ j = 26
    · rw [up_ne (by omega), up_ne (by omega), up_ne (by omega), up_eq h0, if_pos h0]
    · rw [if_neg h0]
      by_cases h1 : a = m + 1 ∧ 957 + 3 * (c - 1) ≤ j ∧ j < 957 + 3 * c
      · rw [if_neg (by omega), if_pos h1]
        by_cases q1 : a = m + 1 ∧ j = 959 + 3 * (c - 1)
        · rw [up_eq q1]
        · rw [up_ne q1]
          by_cases q2 : a = m + 1 ∧ j = 958 + 3 * (c - 1)
          · rw [up_eq q2]
          · rw [up_ne q2, up_eq (by omega)]
      · rw [up_ne (by omega), up_ne (by omega), up_ne (by omega), up_ne h0, e2]
        by_cases h2 : a = m + 1 ∧ 957 + 3 * i ≤ j ∧ j < 957 + 3 * (c - 1)
        · rw [if_pos (by omega), if_pos h2]
        · rw [if_neg (by omega), if_neg h2, if_neg h1]
/-- a timer is gone, both sides -/
theorem sim_rm (hG : G b e m K N L3 L2 μ s) {c i : Nat} (hc : s (m + 1) 26 = nI c) (hi : i < c) (hc12 : c ≤ 12) {s' : gw_M} (hs : mrm m c i s s') : G b e m K N L3 L2 (crm e c i μ) s' := by
  have X1 := GX_up (GX_of hG) (i := 26) (c := 21) (j := 3) (by decide +kernel) (v := nI (c - 1)) (gq_nI (l := 0) (n := 12) (by decide +kernel) (by decide) (by omega) (by decide))
  have X2 := GX_cs (E' := fun k => decide (k = 3)) X1 (μ' := crm e c i μ) (fun c' _ => decide (22 ≤ c') && decide (c' < 25)) (fun a j hj => by
    unfold crm
    by_cases h0 : a = e + 21 ∧ j = 3
    · rw [if_pos h0, up_eq h0]
    · rw [if_neg h0, up_ne h0, if_neg]
      rintro ⟨⟨c1, c2⟩, -⟩
      exact hj ⟨a - e, by omega, by simp; omega⟩) (fun c' j hJ => by
    have hJ : 22 ≤ c' ∧ c' < 25 := by simpa using hJ
    refine ⟨by omega, gd_nbc (k := 3) (by decide) ?_⟩
    simp [nb, hJ.1, hJ.2]) (fun k hk hE => by
    have hk3 : k ≠ 3 := by simpa using hE
    refine ⟨?_, fun c' j hJ => ?_⟩
    · have : ∀ k < 9, k ≠ 3 → na k 26 = false := by decide +kernel
      simp only [this k hk hk3, Bool.or_false]
    · have hJ : 22 ≤ c' ∧ c' < 25 := by simpa using hJ
      exact J3_nb k hk hk3 c' j hJ.1 hJ.2)
  have X3 := GX_m (E' := fun k => decide (k = 3)) X2 (s' := s') J3 (fun a j hj => by
    rw [hs a j]
    by_cases h0 : a = m + 1 ∧ j = 26
    · rw [if_pos h0, up_eq h0]
    · have hj' : ¬ (a = m + 1 ∧ 957 ≤ j ∧ j < 993) := fun c => hj ⟨c.1, by simp [J3, c.2.1, c.2.2]⟩
      rw [if_neg h0, if_neg (by omega), if_neg (by omega), up_ne h0]) (fun j hj => by
    have hj2 : 957 ≤ j ∧ j < 993 := by simpa [J3] using hj
    exact ⟨by omega, by omega, J3_gd j (by omega) hj⟩) (fun k hk hE => by
    have hk3 : k ≠ 3 := by simpa using hE
    refine ⟨hE, fun i' hi' => ?_⟩
    have hj2 : 957 ≤ i' ∧ i' < 993 := by simpa [J3] using hi'
    exact J3_na k hk hk3 i' (by omega) hi')
  refine GX_end X3 (fun _ => rfl) (fun _ => rfl) (fun k hk hE => ?_)
  have hk3 : k = 3 := by simpa using hE
  subst hk3
  intro j hj hj12
  have h26 : s' (m + 1) 26 = nI (c - 1) := by rw [hs, if_pos ⟨rfl, rfl⟩]
  rw [h26, nI_toInt (by omega)] at hj
  have old : ∀ j, j < c → _ := fun j hjc => G_q hG 3 (by decide) j (by rw [hc, nI_toInt (by omega)]; omega) (by omega)
  have cr : ∀ w, w < 3 → crm e c i μ (e + (22 + w)) j = μ (e + (22 + w)) (if i ≤ j then j + 1 else j) := by
    intro w hw
    unfold crm
    rw [if_neg (by omega)]
    by_cases hij : i ≤ j
    · rw [if_pos (by omega), if_pos hij]
    · rw [if_neg (by omega), if_neg hij]
  have mr : ∀ w, w < 3 → s' (m + 1) (957 + 3 * j + w) = s (m + 1) (957 + 3 * (if i ≤ j then j + 1 else j) + w) := by
    intro w hw
    rw [hs, if_neg (by omega)]
    by_cases hij : i ≤ j
    · rw [if_pos (by omega), if_pos hij]
      congr 1
      omega
    · rw [if_neg (by omega), if_neg (by omega), if_neg hij]
  have ho := old (if i ≤ j then j + 1 else j) (by split <;> omega)
  have m0 := mr 0 (by decide)
  have m1 := mr 1 (by decide)
  have m2 := mr 2 (by decide)
  have c0 := cr 0 (by decide)
  have c1 := cr 1 (by decide)
  have c2 := cr 2 (by decide)
  generalize hJ : (if i ≤ j then j + 1 else j) = J at ho m0 m1 m2 c0 c1 c2
  rw [show 957 + 3 * j + 1 = 958 + 3 * j by omega, show 957 + 3 * J + 1 = 958 + 3 * J by omega] at m1
  rw [show 957 + 3 * j + 2 = 959 + 3 * j by omega, show 957 + 3 * J + 2 = 959 + 3 * J by omega] at m2
  have m0' : s' (m + 1) (957 + 3 * j) = s (m + 1) (957 + 3 * J) := m0
  have c0' : crm e c i μ (e + 22) j = μ (e + 22) J := c0
  have c1' : crm e c i μ (e + 23) j = μ (e + 23) J := c1
  have c2' : crm e c i μ (e + 24) j = μ (e + 24) J := c2
  rw [m0', m1, m2, c0', c1', c2']
  exact ho
theorem crm_e {c i j : Nat} : crm e c i μ e j = μ e j := by
  unfold crm
  rw [if_neg (by omega), if_neg (by omega)]
theorem sim_goOff (hn : 1000 ≤ n) (hG : G b e m K N L3 L2 μ s) (hb : b + 1 < 2 ^ 28) (hh : h < 3) (h5 : μ e 5 = nI h) {c i : Nat} (hc : s (m + 1) 26 = nI c) (hi : i < c) (hc12 : c ≤ 12) : ∃ μ' s', F_X3_goOff n e (nI i) μ = some μ' ∧ (F_X11_dropTimer n m (nI i) s).bind (fun (μ_19 : gw_M) => if ¬ μ (e + 22) i = 0 then F_X11_pend n m (μ (e + 22) i) (μ (e + 24) i) μ_19 else F_X11_see n m 7 (μ (e + 24) i) μ_19) = some s' ∧ G (b + 1) e m K N L3 L2 μ' s' ∧ s' (m + 1) 26 = nI (c - 1) ∧ ∀ j, μ' e j = μ e j := by
  have hcc : μ (e + 21) 3 = nI c := (G_rd hG (i := 26) (c := 21) (j := 3) (by decide +kernel)).symm.trans hc
  obtain ⟨-, -, -, ⟨l, hl, hl2⟩, ⟨v, hv, hv2⟩⟩ := G_tm (n := n) hG hc hi hc12
  obtain ⟨s1, e1, e2⟩ := m_drop (n := n) hn hc hi hc12
  have G1 := sim_rm hG hc hi hc12 e2
  have hci : 0 ≤ nI i ∧ i < 12 := ⟨nI_pos' (by omega), by omega⟩
  have h51 : crm e c i μ e 5 = nI h := by rw [crm_e]; exact h5
  have hcr : crm e c i μ (e + 21) 3 = nI (c - 1) := by
    unfold crm
    rw [if_pos ⟨rfl, rfl⟩]
  simp only [F_X3_goOff, nI_clamp (show i < 2 ^ 31 by omega), if_pos hci, gw_let, c_remove hcc hi hc12, e1, Option.bind_some, hl2, hv2]
  by_cases h0 : nI l = 0
  · rw [if_neg (not_not_intro h0), if_neg (not_not_intro h0)]
    obtain ⟨k1, s2, k2, k3⟩ := sim_see (n := n) hn G1 hb 7 (nI v)
    rw [k1, Option.bind_some]
    refine ⟨_, s2, rfl, k2, k3, ?_, fun j => ?_⟩
    · rw [G_rd k3 (i := 26) (c := 21) (j := 3) (by decide +kernel), cwx0_ne (by omega)]
      exact hcr
    · rw [cwx0_ne (by omega), crm_e]
  · rw [if_pos h0, if_pos h0]
    have hg : ∃ g, gg_is s1 m (nI l) g := by
      have hl0 : l ≠ 0 := by
        rintro rfl
        exact h0 rfl
      have : l = 1 ∨ l = 2 := by omega
      rcases this with rfl | rfl
      · exact ⟨0, Or.inl ⟨rfl, rfl⟩⟩
      · exact ⟨1 + h, Or.inr ⟨rfl, h, hh, G_s15 G1 h51, rfl⟩⟩
    obtain ⟨g, hg⟩ := hg
    have hgr := gg_rg g (gg_lt hg)
    obtain ⟨k1, s2, k2, k3⟩ := sim_pend (n := n) G1 hg (show v < 16 by omega)
    rw [c_guest G1 hg, Option.bind_some, k1, Option.bind_some]
    refine ⟨_, s2, rfl, k2, G_mono k3 (by omega) hb, ?_, fun j => ?_⟩
    · rw [G_rd k3 (i := 26) (c := 21) (j := 3) (by decide +kernel), cpd_ne (by omega) (by omega)]
      exact hcr
    · rw [cpd_ne (by omega) (by omega), crm_e]
/-- the slice -/
theorem sim_tail (hn : 1000 ≤ n) (hG : G b e m K N L3 L2 μ s) (hb : b + 1 < 2 ^ 28) (v : Int32) : ∃ μ' s', F_X3_timeGoesOn_77 n e v μ = some (v, μ') ∧ (if ¬ (s (m + 1) 2) = 2 then some (v, s) else (if (s (m + 1) 11) = 0 then some (v, s) else gw_let (gw_up s (m + 1) 12 ((s (m + 1) 12) - (1 : Int32))) (fun (μ_4 : gw_M) => (if 0 < (μ_4 (m + 1) 12) then some (v, μ_4) else (F_X11_deal n m 8 (μ_4 (m + 1) 11) μ_4).bind (fun (μ_7 : gw_M) => some (v, μ_7)))))) = some (v, s') ∧ G (b + 1) e m K N L3 L2 μ' s' ∧ μ' e 7 = μ e 7 := by
  have hl := (G_level hG).1
  have h11 : s (m + 1) 11 = μ e 10 := G_rd hG (i := 11) (c := 0) (j := 10) (by decide +kernel)
  have h12 : s (m + 1) 12 = μ e 11 := G_rd hG (i := 12) (c := 0) (j := 11) (by decide +kernel)
  have Gm := G_mono hG (Nat.le_succ b) hb
  simp only [F_X3_timeGoesOn_77, hl, h11]
  by_cases h2 : μ e 6 = 2
  · rw [if_neg (not_not_intro h2), if_neg (not_not_intro h2)]
    by_cases h0 : μ e 10 = 0
    · rw [if_pos h0, if_pos h0]
      exact ⟨μ, s, rfl, rfl, Gm, rfl⟩
    · rw [if_neg h0, if_neg h0]
      have G1 : G b e m K N L3 L2 (gw_up μ e 11 (μ e 11 - 1)) (gw_up s (m + 1) 12 (μ e 11 - 1)) := G_fr hG (i := 12) (c := 0) (j := 11) (by decide +kernel) (gq_any (by decide +kernel)) (by decide +kernel)
      simp only [gw_let, h12]
      rw [up_eq (s := μ) ⟨rfl, rfl⟩, up_eq (s := s) ⟨rfl, rfl⟩]
      by_cases hz : 0 < μ e 11 - 1
      · rw [if_pos hz, if_pos hz]
        exact ⟨_, _, rfl, rfl, G_mono G1 (by omega) hb, up_ne (by omega)⟩
      · rw [if_neg hz, if_neg hz, up_ne (j := 11) (j' := 10) (by omega), up_ne (j := 12) (j' := 11) (by omega), h11]
        obtain ⟨k1, s1, k2, k3⟩ := sim_deal (n := n) hn G1 hb (R := 8) (by decide) (by decide) (μ e 10)
        have k1' : F_X3_dealToOuter n e 8 (μ e 10) _ = _ := k1
        have k2' : F_X11_deal n m 8 (μ e 10) _ = _ := k2
        rw [k1', k2']
        refine ⟨cdl e 8 (μ e 10) (gw_up μ e 11 (μ e 11 - 1)), s1, rfl, rfl, k3, ?_⟩
        rw [cdl_ne ⟨by omega, by omega, by omega⟩, up_ne (by omega)]
  · rw [if_pos h2, if_pos h2]
    exact ⟨μ, s, rfl, rfl, Gm, rfl⟩
theorem sim_tk (hn : 1000 ≤ n) (hh : h < 3) : ∀ (c k f1 f2 b : Nat) (v : Int32) (μ s : gw_M), c + k ≤ 12 → c < f1 → c < f2 → b + c + 1 < 2 ^ 28 → G b e m K N L3 L2 μ s → μ e 5 = nI h → s (m + 1) 26 = nI c → ∃ r μ' s' r0, F_X11_firstDue n m s = some r0 ∧ F_X3_timeGoesOn_44 n e f1 v (nI k) μ = some (r, μ') ∧ F_X11_tick_52 n m f2 v r0 s = some (r, s') ∧ G (b + c + 1) e m K N L3 L2 μ' s' ∧ μ' e 7 = μ e 7 := by
  intro c
  induction c with
  | zero =>
    intro k f1 f2 b v μ s hk hf1 hf2 hb hG h5 hc
    obtain ⟨f1, rfl⟩ : ∃ z, f1 = z + 1 := ⟨f1 - 1, by omega⟩
    obtain ⟨f2, rfl⟩ : ∃ z, f2 = z + 1 := ⟨f2 - 1, by omega⟩
    obtain ⟨r, r1, r2, r3⟩ := sim_firstNow (n := n) hn hG hh h5 hc (by omega)
    have hr : r = -1 := by
      rcases r3 with r3 | ⟨j, hj, -⟩
      · exact r3
      · omega
    subst hr
    obtain ⟨μ', s', k1, k2, k3, k4⟩ := sim_tail (n := n) hn hG (by omega) v
    refine ⟨v, μ', s', -1, r2, ?_, ?_, k3, k4⟩
    · rw [F_X3_timeGoesOn_44, r1, Option.bind_some, if_neg (not_not_intro rfl), ite_self]
      exact k1
    · rw [F_X11_tick_52, if_pos rfl]
      exact k2
  | succ c ih =>
    intro k f1 f2 b v μ s hk hf1 hf2 hb hG h5 hc
    obtain ⟨f1, rfl⟩ : ∃ z, f1 = z + 1 := ⟨f1 - 1, by omega⟩
    obtain ⟨f2, rfl⟩ : ∃ z, f2 = z + 1 := ⟨f2 - 1, by omega⟩
    obtain ⟨r, r1, r2, r3⟩ := sim_firstNow (n := n) hn hG hh h5 hc (by omega)
    rcases r3 with rfl | ⟨j, hj, rfl⟩
    · obtain ⟨μ', s', k1, k2, k3, k4⟩ := sim_tail (n := n) hn hG (by omega) v
      refine ⟨v, μ', s', -1, r2, ?_, ?_, G_mono k3 (by omega) hb, k4⟩
      · rw [F_X3_timeGoesOn_44, r1, Option.bind_some, if_neg (not_not_intro rfl), ite_self]
        exact k1
      · rw [F_X11_tick_52, if_pos rfl]
        exact k2
    · have hne : ¬ nI j = -1 := by rw [nI_m1 (by omega)]; exact id
      obtain ⟨μ1, s1, g1, g2, g3, g4, g5⟩ := sim_goOff (n := n) hn hG (by omega) hh h5 hc hj (by omega)
      obtain ⟨t0, -, t2, -⟩ := G_tm (n := n) hG hc hj (by omega)
      obtain ⟨r, μ', s', r0, i1, i2, i3, i4, i5⟩ := ih (k + 1) f1 f2 (b + 1) (v + 1) μ1 s1 (by omega) (by omega) (by omega) (by omega) g3 (by rw [g5]; exact h5) g4
      refine ⟨r, μ', s', nI j, r2, ?_, ?_, by rw [show b + (c + 1) + 1 = b + 1 + c + 1 by omega]; exact i4, by rw [i5, g5]⟩
      · rw [F_X3_timeGoesOn_44, if_neg (by rw [show (12 : Int32) = nI 12 from rfl]; exact nI_ge (by omega) (by omega)), r1, Option.bind_some, if_pos hne, g1, Option.bind_some]
        simp only [gw_let, nI_1]
        exact i2
      · rw [F_X11_tick_52, if_neg hne, t0, Option.bind_some, t2, Option.bind_some]
        have tk : ∀ s2, F_X11_tick_99 (F_X11_tick_52 n m f2) n m v s2 = (F_X11_firstDue n m s2).bind (fun r_2 => F_X11_tick_52 n m f2 (v + 1) r_2 s2) := fun s2 => rfl
        cases hd : F_X11_dropTimer n m (nI j) s with
        | none => rw [hd] at g2; cases g2
        | some s2 =>
          rw [hd, Option.bind_some] at g2
          rw [Option.bind_some]
          by_cases h0 : μ (e + 22) j = 0
          · rw [if_neg (not_not_intro h0)] at g2 ⊢
            rw [g2, Option.bind_some, tk, i1, Option.bind_some]
            exact i3
          · rw [if_pos h0] at g2 ⊢
            rw [g2, Option.bind_some, tk, i1, Option.bind_some]
            exact i3
/-- time goes on by one -/
theorem sim_tick (hn : 1000 ≤ n) (hG : G b e m K N L3 L2 μ s) (hb : b + 14 < 2 ^ 28) {t : Nat} (ht : t < 99999) (h7 : μ e 7 = nI t) : ∃ r μ' s', F_X3_timeGoesOn n e μ = some (r, μ') ∧ F_X11_tick n m s = some (r, s') ∧ G (b + 14) e m K N L3 L2 μ' s' ∧ μ' e 7 = nI (t + 1) := by
  obtain ⟨h, hh, h5, h15⟩ := G_hand hG
  obtain ⟨hl, hl2⟩ := G_level hG
  have h3 : s (m + 1) 3 = nI t := (G_rd hG (i := 3) (c := 0) (j := 7) (by decide +kernel)).trans h7
  have G1 : G b e m K N L3 L2 (gw_up μ e 7 (nI (t + 1))) (gw_up s (m + 1) 3 (nI (t + 1))) := G_fr hG (i := 3) (c := 0) (j := 7) (by decide +kernel) (gq_nI (l := 0) (n := 99999) (by decide +kernel) (by decide) (by omega) (by decide)) (by decide +kernel)
  have main : ∀ x, x < 4 → ∃ r μ' s', F_X3_timeGoesOn_35 n e (nI x) (gw_up μ e 7 (nI (t + 1))) = some (r, μ') ∧ F_X11_tick_39 n m 28 (nI x) (gw_up s (m + 1) 3 (nI (t + 1))) = some (r, s') ∧ G (b + 14) e m K N L3 L2 μ' s' ∧ μ' e 7 = nI (t + 1) := by
    intro x hx
    have sp : ∀ x < 4, gd_any (28 + x) = true ∧ ∀ k < 9, na k (28 + x) = false := by decide +kernel
    have G2 := G_fr G1 (gd_sp x hx) (v := μ (e + 33) x + 1) (gq_any (sp x hx).1) (sp x hx).2
    have hr : gw_up s (m + 1) 3 (nI (t + 1)) (m + 1) (28 + x) = μ (e + 33) x := by rw [up_ne (by omega)]; exact G_rd hG (gd_sp x hx)
    have hcx : 0 ≤ nI x ∧ x < 4 := ⟨nI_pos' (by omega), hx⟩
    have hcy : 0 ≤ nI (28 + x) ∧ 28 + x < 20813 := ⟨nI_pos' (by omega), by omega⟩
    obtain ⟨c, hc12, -, hc⟩ := G_tc G2
    obtain ⟨r, μ', s', r0, k1, k2, k3, k4, k5⟩ := sim_tk (n := n) hn hh c 0 n n b 0 _ _ (by omega) (by omega) (by omega) (by omega) G2 (by rw [up_ne (by omega), up_ne (by omega)]; exact h5) hc
    simp only [F_X3_timeGoesOn_35, F_X11_tick_39, show (28 : Int32) = nI 28 from rfl, nI_add, nI_clamp (show x < 2 ^ 31 by omega), nI_clamp (show 28 + x < 2 ^ 31 by omega), if_pos hcx, if_pos hcy, gw_let]
    rw [hr, up_ne (a := e) (a' := e + 33) (by omega)]
    refine ⟨r, μ', s', k2, ?_, G_mono k4 (by omega) hb, ?_⟩
    · rw [k1, Option.bind_some]; exact k3
    · rw [k5, up_ne (by omega), up_eq ⟨rfl, rfl⟩]
  simp only [F_X3_timeGoesOn, F_X11_tick, gw_let, h7, h3, nI_1]
  rw [up_ne (j := 7) (j' := 6) (by omega), up_ne (j := 3) (j' := 2) (by omega), hl, up_ne (j := 7) (j' := 5) (by omega), up_ne (j := 3) (j' := 15) (by omega), h5, h15]
  by_cases h1 : μ e 6 = 1
  · rw [if_neg (not_not_intro h1), if_neg (not_not_intro h1)]
    exact main 0 (by decide)
  · rw [if_pos h1, if_pos h1, show (1 : Int32) = nI 1 from rfl, nI_add]
    exact main (1 + h) (by omega)
end TICK
