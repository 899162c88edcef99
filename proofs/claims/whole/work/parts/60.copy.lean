/-! ===== a machine is copied ===== -/
def CPY (a b w : Nat) (U : Nat → Nat → Bool) (μ μ1 : gw_M) : Prop := ∀ x y, μ1 x y = if (a ≤ x ∧ x < a + w) ∧ U (x - a) y = true then μ (b + (x - a)) y else μ x y
def cu1 (U : Nat → Nat → Bool) (k j : Nat) : Nat → Nat → Bool := fun c y => U c y || (decide (c = k) && decide (y = j))
def cun (U : Nat → Nat → Bool) (k n : Nat) : Nat → Nat → Bool := fun c y => U c y || (decide (c = k) && decide (y < n))
section COPY
variable {a b w n : Nat} {U : Nat → Nat → Bool} {μ μ0 : gw_M}
theorem cp_src (h : CPY a b w U μ μ0) (hd : a + w ≤ b ∨ b + w ≤ a) {k y : Nat} (hk : k < w) : μ0 (b + k) y = μ (b + k) y := by
  rw [h, if_neg (by omega)]
theorem cp_up (h : CPY a b w U μ μ0) (hd : a + w ≤ b ∨ b + w ≤ a) {k j : Nat} (hk : k < w) : CPY a b w (cu1 U k j) μ (gw_up μ0 (a + k) j (μ0 (b + k) j)) := by
  intro x y
  rw [cp_src h hd hk, up_at]
  unfold cu1
  by_cases c : x = a + k ∧ y = j
  · obtain ⟨rfl, rfl⟩ := c
    rw [if_pos ⟨rfl, rfl⟩, if_pos ⟨by omega, by simp [show a + k - a = k by omega]⟩, show a + k - a = k by omega]
  · rw [if_neg c, h]
    by_cases d : (a ≤ x ∧ x < a + w) ∧ U (x - a) y = true
    · rw [if_pos d, if_pos ⟨d.1, by simp [d.2]⟩]
    · rw [if_neg d, if_neg]
      rintro ⟨d1, d2⟩
      rw [Bool.or_eq_true, Bool.and_eq_true, decide_eq_true_eq, decide_eq_true_eq] at d2
      rcases d2 with d2 | d2
      · exact d ⟨d1, d2⟩
      · exact c ⟨by omega, d2.2⟩
theorem cp_cpy (h : CPY a b w U μ μ0) (hd : a + w ≤ b ∨ b + w ≤ a) {k N : Nat} (hk : k < w) : CPY a b w (cun U k N) μ (gw_cpy μ0 (b + k) (a + k) 0 0 N) := by
  intro x y
  simp only [gw_cpy, gw_row, va_cpy, Nat.zero_add, Nat.zero_le, true_and, Nat.sub_zero]
  unfold cun
  by_cases cx : x = a + k
  · subst cx
    rw [if_pos rfl]
    by_cases c : y < N
    · rw [if_pos c, if_pos ⟨by omega, by simp [show a + k - a = k by omega, c]⟩, cp_src h hd hk, show a + k - a = k by omega]
    · rw [if_neg c, h]
      simp [c]
  · rw [if_neg cx, h]
    by_cases d : (a ≤ x ∧ x < a + w) ∧ U (x - a) y = true
    · rw [if_pos d, if_pos ⟨d.1, by simp [d.2]⟩]
    · rw [if_neg d, if_neg]
      rintro ⟨d1, d2⟩
      rw [Bool.or_eq_true, Bool.and_eq_true, decide_eq_true_eq, decide_eq_true_eq] at d2
      rcases d2 with d2 | d2
      · exact d ⟨d1, d2⟩
      · exact cx (by omega)
def u8 (U : Nat → Nat → Bool) (k : Nat) := cu1 (cun (cun (cun U (k + 1) 16) (k + 2) 16) (k + 3) 16) k 3
theorem cp_X8 (h : CPY a b w U μ μ0) (hd : a + w ≤ b ∨ b + w ≤ a) {k : Nat} (hk : k + 4 ≤ w) : ∃ μ1, F_X8_copyFrom n (a + k) (b + k) μ0 = some μ1 ∧ CPY a b w (u8 U k) μ μ1 :=
  ⟨_, rfl, cp_up (cp_cpy (cp_cpy (cp_cpy h hd (k := k + 1) (by omega)) hd (k := k + 2) (by omega)) hd (k := k + 3) (by omega)) hd (k := k) (by omega)⟩
def u7 (U : Nat → Nat → Bool) (k : Nat) := cu1 (cu1 (cun (cun (cun U (k + 1) 24) (k + 2) 24) (k + 3) 24) k 3) k 4
theorem cp_X7 (h : CPY a b w U μ μ0) (hd : a + w ≤ b ∨ b + w ≤ a) {k : Nat} (hk : k + 4 ≤ w) : ∃ μ1, F_X7_copyFrom n (a + k) (b + k) μ0 = some μ1 ∧ CPY a b w (u7 U k) μ μ1 :=
  ⟨_, rfl, cp_up (cp_up (cp_cpy (cp_cpy (cp_cpy h hd (k := k + 1) (by omega)) hd (k := k + 2) (by omega)) hd (k := k + 3) (by omega)) hd (k := k) (by omega)) hd (k := k) (by omega)⟩
def u9 (U : Nat → Nat → Bool) (k : Nat) := cu1 (cun (cun (cun U (k + 1) 12) (k + 2) 12) (k + 3) 12) k 3
theorem cp_X9 (h : CPY a b w U μ μ0) (hd : a + w ≤ b ∨ b + w ≤ a) {k : Nat} (hk : k + 4 ≤ w) : ∃ μ1, F_X9_copyFrom n (a + k) (b + k) μ0 = some μ1 ∧ CPY a b w (u9 U k) μ μ1 :=
  ⟨_, rfl, cp_up (cp_cpy (cp_cpy (cp_cpy h hd (k := k + 1) (by omega)) hd (k := k + 2) (by omega)) hd (k := k + 3) (by omega)) hd (k := k) (by omega)⟩
def u2 (U : Nat → Nat → Bool) (k : Nat) := cun (cun (cun (cun (cun (cu1 (cu1 (cun (cu1 (cu1 (cun (cun (cun (cun (cun U (k + 1) 24) (k + 2) 24) (k + 3) 24) (k + 4) 24) (k + 5) 2) k 5) k 6) (k + 6) 24) k 8) k 9) (k + 7) 24) (k + 8) 4) (k + 9) 2) (k + 10) 2) (k + 11) 2
theorem cp_X2 (h : CPY a b w U μ μ0) (hd : a + w ≤ b ∨ b + w ≤ a) {k : Nat} (hk : k + 12 ≤ w) : ∃ μ1, F_X2_copyFrom n (a + k) (b + k) μ0 = some μ1 ∧ CPY a b w (u2 U k) μ μ1 := by
  refine ⟨_, rfl, ?_⟩
  have h1 := cp_cpy (N := 2) (cp_cpy (N := 24) (cp_cpy (N := 24) (cp_cpy (N := 24) (cp_cpy (N := 24) h hd (k := k + 1) (by omega)) hd (k := k + 2) (by omega)) hd (k := k + 3) (by omega)) hd (k := k + 4) (by omega)) hd (k := k + 5) (by omega)
  have h2 := cp_cpy (N := 24) (cp_up (j := 6) (cp_up (j := 5) h1 hd (k := k) (by omega)) hd (k := k) (by omega)) hd (k := k + 6) (by omega)
  have h3 := cp_cpy (N := 24) (cp_up (j := 9) (cp_up (j := 8) h2 hd (k := k) (by omega)) hd (k := k) (by omega)) hd (k := k + 7) (by omega)
  exact cp_cpy (N := 2) (cp_cpy (N := 2) (cp_cpy (N := 2) (cp_cpy (N := 4) h3 hd (k := k + 8) (by omega)) hd (k := k + 9) (by omega)) hd (k := k + 10) (by omega)) hd (k := k + 11) (by omega)
def u4 (U : Nat → Nat → Bool) (k : Nat) := cu1 (cu1 (cu1 (cun (cun (u8 U (k + 1)) (k + 5) 10) (k + 6) 16) k 3) k 4) k 5
theorem cp_X4 (h : CPY a b w U μ μ0) (hd : a + w ≤ b ∨ b + w ≤ a) {k : Nat} (hk : k + 7 ≤ w) : ∃ μ1, F_X4_copyFrom n (a + k) (b + k) μ0 = some μ1 ∧ CPY a b w (u4 U k) μ μ1 := by
  obtain ⟨μ1, e1, h1⟩ := cp_X8 (n := n) h hd (k := k + 1) (by omega)
  have e1' : F_X8_copyFrom n (a + k + 1) (b + k + 1) μ0 = some μ1 := e1
  refine ⟨_, by simp only [F_X4_copyFrom, e1', Option.bind_some, gw_let]; rfl, ?_⟩
  exact cp_up (cp_up (cp_up (cp_cpy (cp_cpy h1 hd (k := k + 5) (by omega)) hd (k := k + 6) (by omega)) hd (k := k) (by omega)) hd (k := k) (by omega)) hd (k := k) (by omega)
def u0 (U : Nat → Nat → Bool) (k : Nat) := cu1 (cu1 (cu1 (cu1 (cu1 (cun (u7 U (k + 1)) (k + 5) 16) k 2) k 3) k 4) k 5) k 6
theorem cp_X0 (h : CPY a b w U μ μ0) (hd : a + w ≤ b ∨ b + w ≤ a) {k : Nat} (hk : k + 6 ≤ w) (ho : μ (b + k) 4 = 0 ∨ μ (b + k) 4 = 1) : ∃ μ1, F_X0_copyFrom n (a + k) (b + k) μ0 = some μ1 ∧ CPY a b w (u0 U k) μ μ1 := by
  obtain ⟨μ1, e1, h1⟩ := cp_X7 (n := n) h hd (k := k + 1) (by omega)
  have e1' : F_X7_copyFrom n (a + k + 1) (b + k + 1) μ0 = some μ1 := e1
  have h2 := cp_up (j := 3) (cp_up (j := 2) (cp_cpy (N := 16) h1 hd (k := k + 5) (by omega)) hd (k := k) (by omega)) hd (k := k) (by omega)
  have h3 := cp_up (j := 6) (cp_up (j := 5) (cp_up (j := 4) h2 hd (k := k) (by omega)) hd (k := k) (by omega)) hd (k := k) (by omega)
  have hs := cp_src h2 hd (k := k) (y := 4) (by omega)
  refine ⟨_, ?_, h3⟩
  simp only [F_X0_copyFrom, e1', Option.bind_some, gw_let]
  rw [if_pos]
  · rfl
  · have hs' : gw_up (gw_up (gw_cpy μ1 (b + k + 5) (a + k + 5) 0 0 16) (a + k) 2 (gw_cpy μ1 (b + k + 5) (a + k + 5) 0 0 16 (b + k) 2)) (a + k) 3 (gw_up (gw_cpy μ1 (b + k + 5) (a + k + 5) 0 0 16) (a + k) 2 (gw_cpy μ1 (b + k + 5) (a + k + 5) 0 0 16 (b + k) 2) (b + k) 3) (b + k) 4 = μ (b + k) 4 := hs
    rw [hs']
    exact ho
def u1 (U : Nat → Nat → Bool) (k : Nat) := cu1 (cu1 (cu1 (u8 (u8 (u0 U (k + 1)) (k + 7)) (k + 11)) k 3) k 4) k 5
theorem cp_X1 (h : CPY a b w U μ μ0) (hd : a + w ≤ b ∨ b + w ≤ a) {k : Nat} (hk : k + 15 ≤ w) (ho : μ (b + (k + 1)) 4 = 0 ∨ μ (b + (k + 1)) 4 = 1) : ∃ μ1, F_X1_copyFrom n (a + k) (b + k) μ0 = some μ1 ∧ CPY a b w (u1 U k) μ μ1 := by
  obtain ⟨μ1, e1, h1⟩ := cp_X0 (n := n) h hd (k := k + 1) (by omega) ho
  have e1' : F_X0_copyFrom n (a + k + 1) (b + k + 1) μ0 = some μ1 := e1
  obtain ⟨μ2, e2, h2⟩ := cp_X8 (n := n) h1 hd (k := k + 7) (by omega)
  have e2' : F_X8_copyFrom n (a + k + 7) (b + k + 7) μ1 = some μ2 := e2
  obtain ⟨μ3, e3, h3⟩ := cp_X8 (n := n) h2 hd (k := k + 11) (by omega)
  have e3' : F_X8_copyFrom n (a + k + 11) (b + k + 11) μ2 = some μ3 := e3
  refine ⟨_, by simp only [F_X1_copyFrom, e1', e2', e3', Option.bind_some, gw_let]; rfl, ?_⟩
  exact cp_up (cp_up (cp_up h3 hd (k := k) (by omega)) hd (k := k) (by omega)) hd (k := k) (by omega)
def u3 : Nat → Nat → Bool := u2 (u9 (cu1 (cu1 (cu1 (cun (cun (cu1 (cu1 (cu1 (u1 (u1 (u1 (u0 (cu1 (u8 (u4 (fun _ _ => false) 1) 8) 0 2) 12) 37) 52) 67) 0 5) 0 6) 0 7) 19 2) 20 10) 0 10) 0 11) 0 12) 21) 25
theorem cp_X3 (hn : 1000 ≤ n) (hd : a + 82 ≤ b ∨ b + 82 ≤ a) (ho : ∀ g, g < 4 → μ (b + gg_c g) 4 = 0 ∨ μ (b + gg_c g) 4 = 1) : ∃ μ1, F_X3_copyFrom n a b μ = some μ1 ∧ CPY a b 82 u3 μ μ1 := by
  have h0 : CPY a b 82 (fun _ _ => false) μ μ := fun x y => by simp
  obtain ⟨μ1, e1, h1⟩ := cp_X4 (n := n) h0 hd (k := 1) (by omega)
  obtain ⟨μ2, e2, h2⟩ := cp_X8 (n := n) h1 hd (k := 8) (by omega)
  have h3 := cp_up (j := 2) h2 hd (k := 0) (by omega)
  obtain ⟨μ4, e4, h4⟩ := cp_X0 (n := n) h3 hd (k := 12) (by omega) (ho 0 (by decide))
  obtain ⟨μ5, e5, h5⟩ := cp_X1 (n := n) h4 hd (k := 37) (by omega) (ho 1 (by decide))
  obtain ⟨μ6, e6, h6⟩ := cp_X1 (n := n) h5 hd (k := 52) (by omega) (ho 2 (by decide))
  obtain ⟨μ7, e7, h7⟩ := cp_X1 (n := n) h6 hd (k := 67) (by omega) (ho 3 (by decide))
  have h8 := cp_up (j := 12) (cp_up (j := 11) (cp_up (j := 10) (cp_cpy (N := 10) (cp_cpy (N := 2) (cp_up (j := 7) (cp_up (j := 6) (cp_up (j := 5) h7 hd (k := 0) (by omega)) hd (k := 0) (by omega)) hd (k := 0) (by omega)) hd (k := 19) (by omega)) hd (k := 20) (by omega)) hd (k := 0) (by omega)) hd (k := 0) (by omega)) hd (k := 0) (by omega)
  obtain ⟨μ9, e9, h9⟩ := cp_X9 (n := n) h8 hd (k := 21) (by omega)
  obtain ⟨μ10, e10, h10⟩ := cp_X2 (n := n) h9 hd (k := 25) (by omega)
  obtain ⟨f, rfl⟩ : ∃ f, n = f + 1 + 1 + 1 + 1 := ⟨n - 4, by omega⟩
  refine ⟨μ10, ?_, h10⟩
  have e4' : F_X0_copyFrom (f + 1 + 1 + 1 + 1) (a + 12) (b + 12) (gw_up μ2 a 2 (μ2 b 2)) = some μ4 := e4
  simp only [F_X3_copyFrom, e1, e2, Option.bind_some, gw_let, e4']
  have st : ∀ (z f' : Nat) (μa μb : gw_M), z < 3 → F_X1_copyFrom (f + 1 + 1 + 1 + 1) (a + (37 + 15 * z)) (b + (37 + 15 * z)) μa = some μb → F_X3_copyFrom_43 (f + 1 + 1 + 1 + 1) a (f' + 1) b (nI z) μa = F_X3_copyFrom_43 (f + 1 + 1 + 1 + 1) a f' b (nI (z + 1)) μb := by
    intro z f' μa μb hz e
    rw [F_X3_copyFrom_43, if_neg (by rw [show (3 : Int32) = nI 3 from rfl]; exact nI_ge (by omega) (by omega)), nI_clamp (by omega), if_pos ⟨nI_pos' (by omega), hz⟩]
    simp only [gw_let, nI_1]
    rw [if_pos ⟨nI_pos' (by omega), hz⟩, show a + 37 + 15 * z = a + (37 + 15 * z) by omega, show b + 37 + 15 * z = b + (37 + 15 * z) by omega, e, Option.bind_some]
  have s0 := st 0 (f + 1 + 1 + 1) μ4 μ5 (by decide) e5
  have s1 := st 1 (f + 1 + 1) μ5 μ6 (by decide) e6
  have s2 := st 2 (f + 1) μ6 μ7 (by decide) e7
  have s0' : F_X3_copyFrom_43 (f + 1 + 1 + 1 + 1) a (f + 1 + 1 + 1 + 1) b 0 μ4 = _ := s0
  rw [s0', s1, s2, F_X3_copyFrom_43, if_pos (by decide)]
  simp only [gw_let]
  have e9' : F_X9_copyFrom (f + 1 + 1 + 1 + 1) (a + 21) (b + 21) _ = some μ9 := e9
  have e9'' := e9'
  simp only [Nat.add_zero] at e9''
  rw [e9'', Option.bind_some, e10, Option.bind_some]
end COPY
/-! the relation goes with the copy -/
def nbq (k c y : Nat) : Bool := nb k c y && decide (y < (match k with | 1 => 24 | 2 => 16 | 3 => 12 | 4 => 16 | 5 => 16 | 6 => 24 | 7 => 24 | _ => 0))
theorem u3_gd : ∀ i < 993, (match gd i with | none => true | some (c, j) => u3 c j) = true := by decide +kernel
theorem u3_nb : ∀ k < 9, ∀ c < 82, ∀ y < 24, nbq k c y = true → u3 c y = true := by decide +kernel
theorem nb_c : ∀ k, k < 9 → ∀ c y, nb k c y = true → c < 82 := by
  intro k hk c y h
  match k, hk, h with
  | 0, _, h => simp [nb] at h
  | 1, _, h => simp [nb] at h; omega
  | 2, _, h => simp [nb] at h; omega
  | 3, _, h => simp [nb] at h; omega
  | 4, _, h => simp [nb] at h; omega
  | 5, _, h => simp [nb] at h; omega
  | 6, _, h => simp [nb] at h; omega
  | 7, _, h => simp [nb] at h; omega
  | 8, _, h => simp [nb] at h
theorem na_rg : ∀ k, k < 9 → ∀ i, na k i = true → 2 ≤ i ∧ i < 993 := by
  intro k hk i h
  match k, hk, h with
  | 0, _, h => simp [na] at h; omega
  | 1, _, h => simp [na] at h; omega
  | 2, _, h => simp [na] at h; omega
  | 3, _, h => simp [na] at h; omega
  | 4, _, h => simp [na] at h; omega
  | 5, _, h => simp [na] at h; omega
  | 6, _, h => simp [na] at h; omega
  | 7, _, h => simp [na] at h; omega
  | 8, _, h => simp [na] at h; omega
def RR (b e : Nat) (μ : gw_M) (ν : Nat → Int32) : Prop := ∃ L3 L2, gR b e L3 L2 μ ν
theorem gR_copy {b e e' : Nat} {L3 L2 : List Nat} {μ μ' : gw_M} {ν : Nat → Int32} (h : gR b e L3 L2 μ ν) (hd : ∀ i c s, gd i = some (c, s) → μ' (e' + c) s = μ (e + c) s) (hk : ∀ k c s, k < 9 → nbq k c s = true → μ' (e' + c) s = μ (e + c) s) : gR b e' L3 L2 μ' ν := by
  obtain ⟨h1, h2, h3⟩ := h
  refine ⟨h1, fun i c s hi => ?_, fun k hk9 => ?_⟩
  · rw [hd i c s hi]; exact h2 i c s hi
  · have hq := h3 k hk9
    have hm : ∀ c s, nbq k c s = true → μ' (e' + c) s = μ (e + c) s := fun c s => hk k c s hk9
    match k, hk9, hq, hm with
    | 0, _, hq, hm => exact hq
    | 1, _, hq, hm =>
      intro g hg
      have a2 : ∀ g < 4, ∀ k < 24, nbq 1 (gg_c g + 2) k = true ∧ nbq 1 (gg_c g + 3) k = true ∧ nbq 1 (gg_c g + 4) k = true := by decide +kernel
      obtain ⟨q1, q2⟩ := hq g hg
      refine ⟨q1, fun k hk hk2 => ?_⟩
      obtain ⟨l1, l2, l3⟩ := a2 g hg k hk2
      rw [hm _ _ l1, hm _ _ l2, hm _ _ l3]
      exact q2 k hk hk2
    | 2, _, hq, hm =>
      intro g v hg hv
      have a1 : ∀ g < 4, ∀ v < 16, nbq 2 (gg_c g + 5) v = true := by decide +kernel
      rw [hm _ _ (a1 g hg v hv)]
      exact hq g v hg hv
    | 3, _, hq, hm =>
      intro i hi hi2
      have a1 : ∀ i < 12, nbq 3 22 i = true ∧ nbq 3 23 i = true ∧ nbq 3 24 i = true := by decide +kernel
      obtain ⟨i4, i5, i6⟩ := a1 i hi2
      rw [hm _ _ i4, hm _ _ i5, hm _ _ i6]
      exact hq i hi hi2
    | 4, _, hq, hm =>
      obtain ⟨l, ⟨n, a1, a2, a3⟩, a4⟩ := hq
      have b1 : nbq 4 8 3 = true ∧ ∀ p < 16, nbq 4 11 p = true := by decide +kernel
      have hl : ∀ p ∈ L3, μ' (e' + (8 + 3)) p = μ (e + (8 + 3)) p := fun p hp => hm 11 p (b1.2 p ((l.2.1 p).mp hp).1)
      refine ⟨l, ⟨n, a1, by rw [hm _ _ b1.1]; exact a2, fun p hp => by rw [hl p hp]; exact a3 p hp⟩, ?_⟩
      refine List.Pairwise.imp_of_mem ?_ a4
      intro p q hp hq2 hlt
      rw [hl p hp, hl q hq2]; exact hlt
    | 5, _, hq, hm =>
      obtain ⟨l, ⟨n, a1, a2, a3⟩, a4⟩ := hq
      have b1 : nbq 5 2 3 = true ∧ ∀ p < 16, nbq 5 5 p = true := by decide +kernel
      have hl : ∀ p ∈ L2, μ' (e' + (2 + 3)) p = μ (e + (2 + 3)) p := fun p hp => hm 5 p (b1.2 p ((l.2.1 p).mp hp).1)
      refine ⟨l, ⟨n, a1, by rw [hm _ _ b1.1]; exact a2, fun p hp => by rw [hl p hp]; exact a3 p hp⟩, ?_⟩
      refine List.Pairwise.imp_of_mem ?_ a4
      intro p q hp hq2 hlt
      rw [hl p hp, hl q hq2]; exact hlt
    | 6, _, hq, hm =>
      obtain ⟨n5, n6, a1, a2, a3, a4, a5, a6⟩ := hq
      have b2 : ∀ s < 24, ∀ w < 4, nbq 6 (26 + w) s = true := by decide +kernel
      refine ⟨n5, n6, a1, a2, a3, a4, a5, fun i w hw hi => ?_⟩
      rw [hm _ _ (b2 _ (Nat.mod_lt _ (by decide)) w hw)]
      exact a6 i w hw hi
    | 7, _, hq, hm =>
      obtain ⟨n, a1, a2, a3, a4⟩ := hq
      have b2 : nbq 7 25 8 = true ∧ ∀ s < 24, nbq 7 31 s = true := by decide +kernel
      refine ⟨n, a1, by rw [hm _ _ b2.1]; exact a2, a3, fun i hi => ?_⟩
      rw [hm _ _ (b2.2 _ (Nat.mod_lt _ (by decide)))]
      exact a4 i hi
    | 8, _, hq, hm => exact hq
theorem gR_row {b e : Nat} {L3 L2 : List Nat} {μ : gw_M} {ν ν' : Nat → Int32} (h : gR b e L3 L2 μ ν) (hν : ∀ i, 2 ≤ i → i < 993 → ν' i = ν i) : gR b e L3 L2 μ ν' := by
  refine gR_of h ⟨Nat.le_refl _, h.1⟩ (fun i c s hi => ?_) (fun k hk => gq_congr (h.2.2 k hk) (fun i hi => hν i (na_rg k hk i hi).1 (na_rg k hk i hi).2) (fun _ _ _ => rfl))
  obtain ⟨-, q1, q2, -⟩ := gd_inv hi
  exact Or.inl ⟨hν i q1 q2, rfl⟩
theorem RR_cg {b e : Nat} {μ μ' : gw_M} {ν ν' : Nat → Int32} (h : RR b e μ ν) (hμ : ∀ c j, c < 82 → μ' (e + c) j = μ (e + c) j) (hν : ∀ i, 2 ≤ i → i < 993 → ν' i = ν i) : RR b e μ' ν' := by
  obtain ⟨L3, L2, h⟩ := h
  refine ⟨L3, L2, gR_row (gR_copy h (fun i c s hi => hμ c s (gd_inv hi).2.2.2) (fun k c s hk hb => hμ c s ?_)) hν⟩
  unfold nbq at hb
  rw [Bool.and_eq_true] at hb
  exact nb_c k hk c s hb.1
theorem RR_mono {b b' e : Nat} {μ : gw_M} {ν : Nat → Int32} (h : RR b e μ ν) (hb : b ≤ b') (hb' : b' < 2 ^ 28) : RR b' e μ ν := by
  obtain ⟨L3, L2, h⟩ := h
  exact ⟨L3, L2, gR_mono h hb hb'⟩
theorem RR_cpy {b a p : Nat} {μ μ1 : gw_M} {ν : Nat → Int32} (h : RR b p μ ν) (hc : CPY a p 82 u3 μ μ1) : RR b a μ1 ν := by
  obtain ⟨L3, L2, h⟩ := h
  have rd : ∀ c y, c < 82 → u3 c y = true → μ1 (a + c) y = μ (p + c) y := by
    intro c y hc2 hu
    rw [hc, if_pos ⟨by omega, by rw [show a + c - a = c by omega]; exact hu⟩, show a + c - a = c by omega]
  refine ⟨L3, L2, gR_copy h (fun i c s hi => ?_) (fun k c s hk hb => ?_)⟩
  · have h1 := gd_inv hi
    have := u3_gd i h1.2.2.1
    rw [hi] at this
    exact rd c s h1.2.2.2 this
  · have hb2 := hb
    unfold nbq at hb2
    rw [Bool.and_eq_true, decide_eq_true_eq] at hb2
    have hc2 := nb_c k hk c s hb2.1
    have hs : s < 24 := by
      have := hb2.2
      match k, hk, this with
      | 0, _, this => simp at this
      | 1, _, this => simpa using this
      | 2, _, this => simp at this; omega
      | 3, _, this => simp at this; omega
      | 4, _, this => simp at this; omega
      | 5, _, this => simp at this; omega
      | 6, _, this => simpa using this
      | 7, _, this => simpa using this
      | 8, _, this => simp at this
    exact rd c s hc2 (u3_nb k hk c hc2 s hs hb)
theorem RR_open {b e : Nat} {μ : gw_M} {ν : Nat → Int32} (h : RR b e μ ν) : ∀ g, g < 4 → μ (e + gg_c g) 4 = 0 ∨ μ (e + gg_c g) 4 = 1 := by
  obtain ⟨L3, L2, h⟩ := h
  intro g hg
  obtain ⟨a1, a2⟩ := h.2.1 _ _ _ (gd_g g hg).2.2.1
  rw [a1] at a2
  unfold gq_r at a2
  rw [(gd_gq g hg).1] at a2
  obtain ⟨k, hk, hv⟩ := nI_of_rg (v := μ (e + gg_c g) 4) (n := 1) a2.1 (by have := a2.2; simp only at this; omega)
  rw [hv]
  have : k = 0 ∨ k = 1 := by omega
  rcases this with rfl | rfl
  · exact Or.inl rfl
  · exact Or.inr rfl
/-- copied: what was related to the source is related to the copy -/
theorem sim_copy {n b a p : Nat} {μ : gw_M} {ν : Nat → Int32} (hn : 1000 ≤ n) (hd : a + 82 ≤ p ∨ p + 82 ≤ a) (h : RR b p μ ν) : ∃ μ1, F_X3_copyFrom n a p μ = some μ1 ∧ RR b a μ1 ν ∧ ∀ x y, x < a ∨ a + 82 ≤ x → μ1 x y = μ x y := by
  obtain ⟨μ1, e1, h1⟩ := cp_X3 (n := n) (a := a) (b := p) (μ := μ) hn hd (RR_open h)
  exact ⟨μ1, e1, RR_cpy h h1, fun x y hx => by rw [h1, if_neg (by omega)]⟩
