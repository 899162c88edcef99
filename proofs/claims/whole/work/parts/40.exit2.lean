/-! ===== exits, both sides ===== -/
def cwx0 (e w : Nat) (r d t : Int32) (μ : gw_M) : gw_M :=
  let N := ((μ (e + 30) 0).toNatClampNeg + (μ (e + 30) 1).toNatClampNeg) % 24
  gw_up (gw_up (gw_up (gw_up (gw_up μ (e + 26) N (nI w)) (e + 27) N r) (e + 28) N d) (e + 29) N t) (e + 30) w (μ (e + 30) w + 1)
theorem cwx_0 {e : Nat} {r d t : Int32} {μ : gw_M} : cwx e 0 r d t μ = cwx0 e 0 r d t μ := rfl
theorem cwx_1 {e : Nat} {r d t : Int32} {μ : gw_M} : cwx e 1 r d t μ = gw_up (gw_up (cwx0 e 1 r d t μ) (e + 25) 5 r) (e + 25) 6 d := rfl
theorem cwx0_ne {e w a j : Nat} {r d t : Int32} {μ : gw_M} (h : a < e + 26 ∨ e + 30 < a) : cwx0 e w r d t μ a j = μ a j := by
  unfold cwx0
  rw [up_ne (by omega), up_ne (by omega), up_ne (by omega), up_ne (by omega), up_ne (by omega)]
def m_wx (m w M : Nat) (r d : Int32) (s s' : gw_M) : Prop := (∀ a j, ¬ (a = m + 1 ∧ (j = 25 ∨ j = 5 + w ∨ (861 ≤ j ∧ j < 957))) → s' a j = s a j) ∧ s' (m + 1) 25 = nI (min (M + 1) 24) ∧ s' (m + 1) (5 + w) = s (m + 1) (5 + w) + 1 ∧ ∀ i z, z < 4 → i < min (M + 1) 24 → s' (m + 1) (861 + 4 * i + z) = if i + 1 = min (M + 1) 24 then (if z = 0 then nI w else if z = 1 then r else if z = 2 then d else s (m + 1) 3) else s (m + 1) (861 + 4 * (i + (M + 1 - min (M + 1) 24 - (M - min M 24))) + z)
theorem m_wx_up {m w M : Nat} {r d v : Int32} {s s' : gw_M} (hw : w < 2) (h : m_wx m w M r d s s') : m_wx m w M r d (gw_up s (m + 1) 16 v) (gw_up s' (m + 1) 16 v) := by
  obtain ⟨a1, a2, a3, a4⟩ := h
  refine ⟨fun a j hj => ?_, ?_, ?_, fun i z hz hi => ?_⟩
  · by_cases hc : a = m + 1 ∧ j = 16
    · rw [up_eq hc, up_eq hc]
    · rw [up_ne hc, up_ne hc]; exact a1 a j hj
  · rw [up_ne (by omega)]; exact a2
  · rw [up_ne (by omega), up_ne (by omega)]; exact a3
  · rw [up_ne (by omega), up_ne (by omega), up_ne (by omega)]; exact a4 i z hz hi
theorem gd_nbc {c j k : Nat} (hk : k < 9) (h : nb k c j = true) : ∀ i, gd i ≠ some (c, j) := by
  intro i hi
  rw [gd_nb i c j hi k hk] at h
  cases h
def J6 (i : Nat) : Bool := decide (i = 25) || (decide (861 ≤ i) && decide (i < 957))
theorem J6_na : ∀ k < 9, k ≠ 6 → ∀ i < 993, J6 i = true → na k i = false := by decide +kernel
theorem J6_gd : ∀ i < 993, J6 i = true → gd i = none := by decide +kernel
theorem J6_lt {i : Nat} (h : J6 i = true) : 2 ≤ i ∧ i < 993 := by
  simp only [J6, Bool.or_eq_true, Bool.and_eq_true, decide_eq_true_eq] at h
  omega
theorem N6_nb : ∀ N < 24, ∀ k < 9, k ≠ 6 → nb k 26 N = false ∧ nb k 27 N = false ∧ nb k 28 N = false ∧ nb k 29 N = false := by decide +kernel
theorem N6_na : ∀ w < 2, ∀ k < 9, k ≠ 6 → na k (5 + w) = false := by decide +kernel
def J7 (i : Nat) : Bool := decide (i = 24) || (decide (837 ≤ i) && decide (i < 861))
theorem J7_na : ∀ k < 9, k ≠ 7 → ∀ i < 993, J7 i = true → na k i = false := by decide +kernel
theorem J7_gd : ∀ i < 993, J7 i = true → gd i = none := by decide +kernel
theorem J7_lt {i : Nat} (h : J7 i = true) : 2 ≤ i ∧ i < 993 := by
  simp only [J7, Bool.or_eq_true, Bool.and_eq_true, decide_eq_true_eq] at h
  omega
theorem N7_nb : ∀ N < 24, ∀ k < 9, k ≠ 7 → nb k 31 N = false ∧ nb k 25 8 = false := by decide +kernel
section EXIT2
variable {b e m n : Nat} {K N : gw_M} {L3 L2 L : List Nat} {μ s : gw_M}
theorem sim_wx0 (h : G b e m K N L3 L2 μ s) (hb : b + 1 < 2 ^ 28) {w n5 n6 : Nat} (hw : w < 2) {r d : Int32} (h5 : s (m + 1) 5 = nI n5) (h6 : s (m + 1) 6 = nI n6) (l5 : n5 ≤ b) (l6 : n6 ≤ b) {s' : gw_M} (hm : m_wx m w (n5 + n6) r d s s') : G (b + 1) e m K N L3 L2 (cwx0 e w r d (μ e 7) μ) s' := by
  obtain ⟨a1, a2, a3, a4⟩ := hm
  have g5 := G_rd h (i := 5) (c := 30) (j := 0) (by decide +kernel)
  have g6 := G_rd h (i := 6) (c := 30) (j := 1) (by decide +kernel)
  have g3 := G_rd h (i := 3) (c := 0) (j := 7) (by decide +kernel)
  have c5 : μ (e + 30) 0 = nI n5 := g5.symm.trans h5
  have c6 : μ (e + 30) 1 = nI n6 := g6.symm.trans h6
  obtain ⟨o5, o6, q1, q2, q3, q4, q5, q6⟩ := G_q h 6 (by decide)
  have hbb := G_b h
  have : o5 = n5 := nI_inj (by omega) (by omega) (q1.symm.trans h5)
  subst this
  have : o6 = n6 := nI_inj (by omega) (by omega) (q2.symm.trans h6)
  subst this
  have hM : ∃ M, M = o5 + o6 := ⟨_, rfl⟩
  obtain ⟨M, hM⟩ := hM
  have hN : M % 24 < 24 := Nat.mod_lt _ (by decide)
  have hcw : cwx0 e w r d (μ e 7) μ = gw_up (gw_up (gw_up (gw_up (gw_up μ (e + 26) (M % 24) (nI w)) (e + 27) (M % 24) r) (e + 28) (M % 24) d) (e + 29) (M % 24) (μ e 7)) (e + 30) w (μ (e + 30) w + 1) := by
    unfold cwx0
    simp only [c5, c6, nI_clamp (show o5 < 2 ^ 31 by omega), nI_clamp (show o6 < 2 ^ 31 by omega), ← hM]
  have hiw : gd (5 + w) = some (30, w) := (gd_2 w hw).2.2.2.2
  have hqw : gd_q (5 + w) = (0, 0, 1) := by
    match w, hw with
    | 0, _ => decide +kernel
    | 1, _ => decide +kernel
  have hwv : s (m + 1) (5 + w) + 1 = μ (e + 30) w + 1 := by rw [G_rd h hiw]
  have hrg : gq_r (b + 1) (5 + w) (μ (e + 30) w + 1) := by
    match w, hw with
    | 0, _ => rw [c5, nI_1]; exact gq_b hqw (by omega) (by omega)
    | 1, _ => rw [c6, nI_1]; exact gq_b hqw (by omega) (by omega)
  have X5 := GX_up (GX_c (GX_c (GX_c (GX_c (GX_b (GX_of h) (Nat.le_succ b) hb) (c := 26) (j := M % 24) (by decide) (gd_nbc (k := 6) (by decide) rfl) (nI w)) (c := 27) (j := M % 24) (by decide) (gd_nbc (k := 6) (by decide) rfl) r) (c := 28) (j := M % 24) (by decide) (gd_nbc (k := 6) (by decide) rfl) d) (c := 29) (j := M % 24) (by decide) (gd_nbc (k := 6) (by decide) rfl) (μ e 7)) hiw hrg
  rw [← hcw] at X5
  have X6 := GX_m (E' := fun k => decide (k = 6)) X5 (s' := s') J6 (fun a j hj => by
    by_cases hc : a = m + 1 ∧ j = 5 + w
    · rw [up_eq hc, hc.1, hc.2, a3, hwv]
    · rw [up_ne hc]
      refine a1 a j (fun c => ?_)
      obtain ⟨rfl, c2⟩ := c
      rcases c2 with c2 | c2 | c2
      · exact hj ⟨rfl, by simp [J6, c2]⟩
      · exact hc ⟨rfl, c2⟩
      · exact hj ⟨rfl, by simp [J6, c2.1, c2.2]⟩) (fun j hj => ⟨(J6_lt hj).1, (J6_lt hj).2, J6_gd j (J6_lt hj).2 hj⟩) (fun k hk hE => by
    have hk6 : k ≠ 6 := by simpa using hE
    obtain ⟨z1, z2, z3, z4⟩ := N6_nb _ hN k hk hk6
    refine ⟨?_, fun i hi => J6_na k hk hk6 i (J6_lt hi).2 hi⟩
    simp only [z1, z2, z3, z4, N6_na w hw k hk hk6, Bool.or_false])
  refine GX_end X6 (fun _ => rfl) (fun _ => rfl) (fun k hk hE => ?_)
  have hk6 : k = 6 := by simpa using hE
  subst hk6
  have r5 : s' (m + 1) 5 = nI (o5 + (1 - w)) ∧ s' (m + 1) 6 = nI (o6 + w) := by
    match w, hw with
    | 0, _ =>
      refine ⟨?_, ?_⟩
      · have : s' (m + 1) 5 = s (m + 1) 5 + 1 := a3
        rw [this, q1, nI_1]
      · rw [a1 _ _ (by omega), q2]; rfl
    | 1, _ =>
      refine ⟨?_, ?_⟩
      · rw [a1 _ _ (by omega), q1]; rfl
      · have : s' (m + 1) 6 = s (m + 1) 6 + 1 := a3
        rw [this, q2, nI_1]
  refine ⟨o5 + (1 - w), o6 + w, r5.1, r5.2, by omega, by omega, ?_, fun i z hz hi => ?_⟩
  · rw [a2]; congr 2; omega
  · have hsum : o5 + (1 - w) + (o6 + w) = M + 1 := by omega
    rw [hsum] at hi ⊢
    rw [← hM] at a4 q6
    have ev : ∀ S, cwx0 e w r d (μ e 7) μ (e + (26 + z)) S = if S = M % 24 then (if z = 0 then nI w else if z = 1 then r else if z = 2 then d else s (m + 1) 3) else μ (e + (26 + z)) S := by
      intro S
      rw [hcw]
      match z, hz with
      | 0, _ =>
        rw [up_ne (by omega), up_ne (by omega), up_ne (by omega), up_ne (by omega), up_at]
        by_cases hS : S = M % 24
        · rw [if_pos ⟨by omega, hS⟩, if_pos hS]; rfl
        · rw [if_neg (by omega), if_neg hS]
      | 1, _ =>
        rw [up_ne (by omega), up_ne (by omega), up_ne (by omega), up_at]
        by_cases hS : S = M % 24
        · rw [if_pos ⟨by omega, hS⟩, if_pos hS]; rfl
        · rw [if_neg (by omega), if_neg hS, up_ne (by omega)]
      | 2, _ =>
        rw [up_ne (by omega), up_ne (by omega), up_at]
        by_cases hS : S = M % 24
        · rw [if_pos ⟨by omega, hS⟩, if_pos hS]; rfl
        · rw [if_neg (by omega), if_neg hS, up_ne (by omega), up_ne (by omega)]
      | 3, _ =>
        rw [up_ne (by omega), up_at]
        by_cases hS : S = M % 24
        · rw [if_pos ⟨by omega, hS⟩, if_pos hS]; exact g3.symm
        · rw [if_neg (by omega), if_neg hS, up_ne (by omega), up_ne (by omega), up_ne (by omega)]
    rw [a4 i z hz hi, ev]
    by_cases hl : i + 1 = min (M + 1) 24
    · rw [if_pos hl, if_pos (show (M + 1 - min (M + 1) 24 + i) % 24 = M % 24 by omega)]
    · rw [if_neg hl, if_neg (show ¬ (M + 1 - min (M + 1) 24 + i) % 24 = M % 24 by omega), q6 (i + (M + 1 - min (M + 1) 24 - (M - min M 24))) z hz (by omega)]
      have : M - min M 24 + (i + (M + 1 - min (M + 1) 24 - (M - min M 24))) = M + 1 - min (M + 1) 24 + i := by omega
      rw [this]
/-- the host sees -/
theorem sim_see (hn : 1000 ≤ n) (h : G b e m K N L3 L2 μ s) (hb : b + 1 < 2 ^ 28) (r d : Int32) : F_X3_hostSees n e r d μ = some (cwx0 e 0 r d (μ e 7) μ) ∧ ∃ s', F_X11_see n m r d s = some s' ∧ G (b + 1) e m K N L3 L2 (cwx0 e 0 r d (μ e 7) μ) s' := by
  obtain ⟨o5, o6, q1, q2, q3, q4, q5, q6⟩ := G_q h 6 (by decide)
  have g5 := G_rd h (i := 5) (c := 30) (j := 0) (by decide +kernel)
  have g6 := G_rd h (i := 6) (c := 30) (j := 1) (by decide +kernel)
  have hbb := G_b h
  have hc := c_writeExit (n := n) (μ := μ) (e := e) (w := 0) (by decide) (g5.symm.trans q1) (g6.symm.trans q2) (by omega) (r := r) (d := d) (t := μ e 7)
  obtain ⟨s', e1, e2⟩ := m_writeExit (m := m) (s := s) hn (w := 0) (M := o5 + o6) (r := r) (d := d) (by decide) q5
  refine ⟨?_, s', ?_, sim_wx0 h hb (by decide) q1 q2 q3 q4 e2⟩
  · have hc' : F_X2_writeExit n (e + 25) 0 r d (μ e 7) μ = some (cwx0 e 0 r d (μ e 7) μ) := hc
    simp only [F_X3_hostSees, hc', Option.bind_some]
  · have e1' : F_X11_writeExit n m 0 r d s = some s' := e1
    simp only [F_X11_see, e1', Option.bind_some]
/-- a place is gone to -/
theorem G_place (h : G b e m K N L3 L2 μ s) {g : Nat} (hg : g < 4) {p : Nat} (hp : p < 24) (hl : (p : Int) < (s (m + 1) (64 + 162 * g)).toInt) : G b e m K N L3 L2 (gw_up μ (e + (gg_c g + 1)) 4 (nI p)) (gw_up s (m + 1) (63 + 162 * g) (nI p)) := by
  have hi := (gd_g g hg).2.2.2.2.2.1
  have hx := GX_up (GX_of h) hi (v := nI p) (gq_nI (n := 23) (gd_gq g hg).2.2.2.1 (by decide) (by omega) (by decide))
  refine GX_end (E := fun k => decide (k = 1)) (GX_E hx (fun k hk hE => ?_)) (fun _ => rfl) (fun _ => rfl) (fun k hk hE => ?_)
  · have hk1 : k ≠ 1 := by simpa using hE
    have : ∀ g < 4, ∀ k < 9, k ≠ 1 → na k (63 + 162 * g) = false := by decide +kernel
    simp only [this g hg k hk hk1, Bool.or_false]
  · have hk1 : k = 1 := by simpa using hE
    subst hk1
    intro g' hg'
    obtain ⟨p1, p2⟩ := G_q h 1 (by decide) g' hg'
    have hnb : ∀ c j, nb 1 c j = true → gw_up μ (e + (gg_c g + 1)) 4 (nI p) (e + c) j = μ (e + c) j := by
      intro c j hc
      rw [up_ne]
      rintro ⟨w1, rfl⟩
      have : c = gg_c g + 1 := by omega
      subst this
      rw [gd_nb _ _ _ hi 1 (by decide)] at hc
      cases hc
    refine ⟨?_, fun k hk hk2 => ?_⟩
    · rw [up_ne (j' := 64 + 162 * g') (by omega)]
      by_cases hgg : g' = g
      · subst hgg
        right
        rw [up_eq ⟨rfl, rfl⟩, nI_toInt (by omega)]
        exact hl
      · rw [up_ne (by omega)]
        exact p1
    · rw [up_ne (by omega)] at hk
      have hnk : ∀ g < 4, ∀ k < 24, nb 1 (gg_c g + 2) k = true ∧ nb 1 (gg_c g + 3) k = true ∧ nb 1 (gg_c g + 4) k = true := by decide +kernel
      obtain ⟨z1, z2, z3⟩ := hnk g' hg' k hk2
      rw [up_ne (j' := 65 + 162 * g' + 3 * k) (by omega), up_ne (j' := 66 + 162 * g' + 3 * k) (by omega), up_ne (j' := 67 + 162 * g' + 3 * k) (by omega), hnb _ _ z1, hnb _ _ z2, hnb _ _ z3]
      exact p2 k hk hk2
theorem G_many (h : G b e m K N L3 L2 μ s) {g : Nat} (hg : g < 4) : ∃ k, k ≤ 24 ∧ μ (e + (gg_c g + 1)) 3 = nI k ∧ s (m + 1) (64 + 162 * g) = nI k := G_n h (gd_g g hg).2.2.2.2.2.2 (gd_gq g hg).2.2.2.2
/-- the class's goTo is the model's test -/
theorem c_goTo {g k : Nat} (hk : k ≤ 24) (hm : μ (e + (gg_c g + 1)) 3 = nI k) (p : Int32) : F_X7_goTo n (e + (gg_c g + 1)) p μ = some (if isin p 0 (nI k - 1) = 0 then μ else gw_up μ (e + (gg_c g + 1)) 4 p) := by
  simp only [F_X7_goTo, gw_let, hm]
  have hle : nI k ≤ p ↔ nI k - 1 < p := by
    rw [Int32.le_iff_toInt_le, Int32.lt_iff_toInt_lt]
    have h1 : (nI k - 1).toInt = (k : Int) - 1 := by
      match k, hk with
      | 0, _ => decide
      | k + 1, hk =>
        rw [nI_pred, nI_toInt (by omega)]
        omega
    rw [h1, nI_toInt (by omega)]
    omega
  by_cases h0 : p < 0
  · have hi : isin p 0 (nI k - 1) = 0 := by
      unfold isin
      rw [if_pos h0]
    rw [if_pos h0, if_pos hi]
  · by_cases h1 : nI k ≤ p
    · have hi : isin p 0 (nI k - 1) = 0 := by
        unfold isin
        rw [if_neg h0, if_pos (hle.mp h1)]
      rw [if_neg h0, if_pos h1, if_pos hi]
    · have hi : isin p 0 (nI k - 1) = 1 := by
        unfold isin
        rw [if_neg h0, if_neg (fun c => h1 (hle.mpr c))]
      rw [if_neg h0, if_neg h1, hi, if_neg (by decide)]
theorem isin_k {p : Int32} {k : Nat} (hk : k ≤ 24) (h : isin p 0 (nI k - 1) ≠ 0) : ∃ q, q < k ∧ p = nI q := by
  match k, hk, h with
  | 0, _, h =>
    exfalso
    apply h
    unfold isin
    by_cases h0 : p < 0
    · rw [if_pos h0]
    · rw [if_neg h0, if_pos]
      rw [Int32.lt_iff_toInt_lt] at h0 ⊢
      have h1 : (nI 0 - 1).toInt = -1 := by decide
      have h2 : (0 : Int32).toInt = 0 := by decide
      omega
  | k + 1, hk, h =>
    rw [nI_pred] at h
    rcases isin_0 p k (by omega) with ⟨h1, -⟩ | ⟨-, q, hq, rfl⟩
    · exact absurd h1 h
    · exact ⟨q, by omega, rfl⟩
/-- go to, both sides, by the model's test -/
theorem sim_goTo (h : G b e m K N L3 L2 μ s) {g k : Nat} (hg : g < 4) (hk : k ≤ 24) (hm : s (m + 1) (64 + 162 * g) = nI k) (p : Int32) : G b e m K N L3 L2 (if isin p 0 (nI k - 1) = 0 then μ else gw_up μ (e + (gg_c g + 1)) 4 p) (if isin p 0 (nI k - 1) = 0 then s else gw_up s (m + 1) (63 + 162 * g) p) := by
  by_cases hi : isin p 0 (nI k - 1) = 0
  · rw [if_pos hi, if_pos hi]; exact h
  · rw [if_neg hi, if_neg hi]
    obtain ⟨q, hq, rfl⟩ := isin_k hk hi
    exact G_place h hg (by omega) (by rw [hm, nI_toInt (by omega)]; omega)
def cgo (e g : Nat) (p : Int32) (μ : gw_M) : gw_M := if isin p 0 (μ (e + (gg_c g + 1)) 3 - 1) = 0 then μ else gw_up μ (e + (gg_c g + 1)) 4 p
def cdl (e R : Nat) (d : Int32) (μ : gw_M) : gw_M := cgo e 0 (μ (e + 20) R) (gw_up (cwx e 1 (nI R) d (μ e 7) μ) e 6 1)
theorem cgo_ne {e g a j : Nat} {p : Int32} {μ : gw_M} (h : ¬ (a = e + (gg_c g + 1) ∧ j = 4)) : cgo e g p μ a j = μ a j := by
  unfold cgo
  split
  · rfl
  · exact up_ne h
theorem cdl_ne {e R a j : Nat} {d : Int32} {μ : gw_M} (h : ¬ (a = e ∧ j = 6) ∧ ¬ (a = e + 13 ∧ j = 4) ∧ (a < e + 25 ∨ e + 30 < a)) : cdl e R d μ a j = μ a j := by
  unfold cdl
  rw [cgo_ne (by show ¬ (a = e + 13 ∧ j = 4); exact h.2.1), up_ne h.1, cwx_1, up_ne (by omega), up_ne (by omega), cwx0_ne (by omega)]
theorem gq_lv {k : Nat} (h1 : 1 ≤ k) (h2 : k ≤ 2) : gq_r b 2 (nI k) := by
  unfold gq_r
  rw [show gd_q 2 = (1, 2, 0) by decide +kernel, nI_toInt (by omega)]
  refine ⟨by show (1 : Int) ≤ k; omega, ?_⟩
  show (k : Int) ≤ 2 + ((0 : Nat) : Int) * b
  omega
/-- it is dealt to the outer guest -/
theorem sim_deal38 (h : G b e m K N L3 L2 μ s) {R : Nat} (hR : R < 9) : F_X11_deal_38 n m (nI R) s = some (if isin (s (m + 1) (828 + R)) 0 (s (m + 1) 64 - 1) = 0 then gw_up s (m + 1) 2 1 else gw_up (gw_up s (m + 1) 2 1) (m + 1) 63 (s (m + 1) (828 + R))) ∧ G b e m K N L3 L2 (cgo e 0 (μ (e + 20) R) (gw_up μ e 6 1)) (if isin (s (m + 1) (828 + R)) 0 (s (m + 1) 64 - 1) = 0 then gw_up s (m + 1) 2 1 else gw_up (gw_up s (m + 1) 2 1) (m + 1) 63 (s (m + 1) (828 + R))) := by
  have h1 : G b e m K N L3 L2 (gw_up μ e 6 1) (gw_up s (m + 1) 2 1) := G_fr h (i := 2) (c := 0) (j := 6) (by decide +kernel) (gq_lv (k := 1) (by decide) (by decide)) (by decide +kernel)
  obtain ⟨k, hk, k1, k2⟩ := G_many h (g := 0) (by decide)
  have k2' : s (m + 1) 64 = nI k := k2
  have k3 : gw_up s (m + 1) 2 1 (m + 1) (64 + 162 * 0) = nI k := by rw [up_ne (by omega)]; exact k2
  have k4 : gw_up μ e 6 1 (e + (gg_c 0 + 1)) 3 = nI k := by rw [up_ne (by omega)]; exact k1
  have hh := G_rd h (gd_hn R hR).1
  refine ⟨?_, ?_⟩
  · simp only [F_X11_deal_38, gw_let, (m_guestAt (n := n) (m := m) (s := gw_up s (m + 1) 2 1) (gu := 1) (g := 0) (Or.inl ⟨rfl, rfl⟩)).1, Option.bind_some, show (828 : Int32) = nI 828 from rfl, show (6 : Int32) = nI 6 from rfl, show (5 : Int32) = nI 5 from rfl, nI_add, m_isIn]
    rw [if_pos (of_eq_true (ckN (by omega) (by omega))), nI_clamp (show 828 + R < 2 ^ 31 by omega), if_pos (of_eq_true (ckN (by decide) (by decide))), nI_clamp (show 58 + 162 * 0 + 6 < 2 ^ 31 by decide), up_ne (j' := 828 + R) (by omega), up_ne (j' := 58 + 162 * 0 + 6) (by omega), if_pos (of_eq_true (ckN (k := 58 + 162 * 0 + 5) (by decide) (by decide))), nI_clamp (show 58 + 162 * 0 + 5 < 2 ^ 31 by decide)]
    show (if isin (s (m + 1) (828 + R)) 0 (s (m + 1) 64 - 1) = 0 then _ else _) = _
    split <;> rfl
  · have := sim_goTo h1 (g := 0) (by decide) hk k3 (s (m + 1) (828 + R))
    unfold cgo
    rw [k4, ← hh, k2']
    exact this
theorem sim_deal (hn : 1000 ≤ n) (h : G b e m K N L3 L2 μ s) (hb : b + 1 < 2 ^ 28) {R : Nat} (hR : R < 9) (hR1 : R ≠ 1) (d : Int32) : F_X3_dealToOuter n e (nI R) d μ = some (cdl e R d μ) ∧ ∃ s', F_X11_deal n m (nI R) d s = some s' ∧ G (b + 1) e m K N L3 L2 (cdl e R d μ) s' := by
  obtain ⟨o5, o6, q1, q2, q3, q4, q5, q6⟩ := G_q h 6 (by decide)
  have g5 := G_rd h (i := 5) (c := 30) (j := 0) (by decide +kernel)
  have g6 := G_rd h (i := 6) (c := 30) (j := 1) (by decide +kernel)
  have hbb := G_b h
  have hc := c_writeExit (n := n) (μ := μ) (e := e) (w := 1) (by decide) (g5.symm.trans q1) (g6.symm.trans q2) (by omega) (r := nI R) (d := d) (t := μ e 7)
  obtain ⟨s', e1, e2⟩ := m_writeExit (m := m) (s := s) hn (w := 1) (M := o5 + o6) (r := nI R) (d := d) (by decide) q5
  have h1 := sim_wx0 h hb (by decide) q1 q2 q3 q4 e2
  have h2 := G_fr (G_fr h1 (i := 13) (c := 25) (j := 5) (by decide +kernel) (v := nI R) (gq_any (by decide +kernel)) (by decide +kernel)) (i := 14) (c := 25) (j := 6) (by decide +kernel) (v := d) (gq_any (by decide +kernel)) (by decide +kernel)
  rw [← cwx_1] at h2
  obtain ⟨k1, k2⟩ := sim_deal38 (n := n) h2 hR
  have hh : cwx e 1 (nI R) d (μ e 7) μ (e + 20) R = μ (e + 20) R := by rw [cwx_1, up_ne (by omega), up_ne (by omega), cwx0_ne (by omega)]
  obtain ⟨k, hk, hm, -⟩ := G_many h2 (g := 0) (by decide)
  have hm' : gw_up (cwx e 1 (nI R) d (μ e 7) μ) e 6 1 (e + (gg_c 0 + 1)) 3 = nI k := by rw [up_ne (by omega)]; exact hm
  rw [hh] at k2
  refine ⟨?_, _, ?_, k2⟩
  · have hc' : F_X2_writeExit n (e + 25) 1 (nI R) d (μ e 7) μ = some (cwx e 1 (nI R) d (μ e 7) μ) := hc
    simp only [F_X3_dealToOuter, hc', Option.bind_some, gw_let]
    rw [if_pos (of_eq_true (ckN (by omega) (by omega))), nI_clamp (by omega), up_ne (a' := e + 20) (by omega), hh]
    have := c_goTo (n := n) (g := 0) hk hm' (μ (e + 20) R)
    have t2 : F_X7_goTo n (e + 13) (μ (e + 20) R) (gw_up (cwx e 1 (nI R) d (μ e 7) μ) e 6 1) = _ := this
    rw [t2, Option.bind_some, ← hm']
    rfl
  · have e1' : F_X11_writeExit n m 1 (nI R) d s = some s' := e1
    simp only [F_X11_deal, e1', Option.bind_some, gw_let]
    rw [if_pos (show ¬ nI R = 1 from fun c => hR1 (nI_inj (b := 1) (by omega) (by omega) c))]
    exact k1
/-- and by reason 1: the page that was missed -/
theorem sim_deal1 (hn : 1000 ≤ n) (h : G b e m K N L3 L2 μ s) (hb : b + 1 < 2 ^ 28) {p w : Nat} (hp : p < 16) (hw : w < 4) : F_X3_dealToOuter n e 1 (nI (4 * p + w)) (gw_up μ e 12 (nI p)) = some (cdl e 1 (nI (4 * p + w)) (gw_up μ e 12 (nI p))) ∧ ∃ s', F_X11_deal n m 1 (nI (4 * p + w)) s = some s' ∧ G (b + 1) e m K N L3 L2 (cdl e 1 (nI (4 * p + w)) (gw_up μ e 12 (nI p))) s' := by
  obtain ⟨o5, o6, q1, q2, q3, q4, q5, q6⟩ := G_q h 6 (by decide)
  have hbb := G_b h
  have h0 : G b e m K N L3 L2 (gw_up μ e 12 (nI p)) (gw_up s (m + 1) 16 (nI p)) := G_fr h (i := 16) (c := 0) (j := 12) (by decide +kernel) (gq_nI (n := 15) (show gd_q 16 = (-1, ((15 : Nat) : Int), 0) by decide +kernel) (by decide) (by omega) (by decide)) (by decide +kernel)
  have ht : gw_up μ e 12 (nI p) e 7 = μ e 7 := up_ne (by omega)
  have g5 := G_rd h0 (i := 5) (c := 30) (j := 0) (by decide +kernel)
  have g6 := G_rd h0 (i := 6) (c := 30) (j := 1) (by decide +kernel)
  have p1 : gw_up s (m + 1) 16 (nI p) (m + 1) 5 = nI o5 := by rw [up_ne (by omega)]; exact q1
  have p2 : gw_up s (m + 1) 16 (nI p) (m + 1) 6 = nI o6 := by rw [up_ne (by omega)]; exact q2
  have hc := c_writeExit (n := n) (μ := gw_up μ e 12 (nI p)) (e := e) (w := 1) (by decide) (g5.symm.trans p1) (g6.symm.trans p2) (by omega) (r := nI 1) (d := nI (4 * p + w)) (t := gw_up μ e 12 (nI p) e 7)
  obtain ⟨s', e1, e2⟩ := m_writeExit (m := m) (s := s) hn (w := 1) (M := o5 + o6) (r := nI 1) (d := nI (4 * p + w)) (by decide) q5
  have h1 := sim_wx0 h0 hb (by decide) p1 p2 q3 q4 (m_wx_up (v := nI p) (by decide) e2)
  have h2 := G_fr (G_fr h1 (i := 13) (c := 25) (j := 5) (by decide +kernel) (v := nI 1) (gq_any (by decide +kernel)) (by decide +kernel)) (i := 14) (c := 25) (j := 6) (by decide +kernel) (v := nI (4 * p + w)) (gq_any (by decide +kernel)) (by decide +kernel)
  rw [← cwx_1] at h2
  obtain ⟨k1, k2⟩ := sim_deal38 (n := n) h2 (R := 1) (by decide)
  have hh : cwx e 1 (nI 1) (nI (4 * p + w)) (gw_up μ e 12 (nI p) e 7) (gw_up μ e 12 (nI p)) (e + 20) 1 = gw_up μ e 12 (nI p) (e + 20) 1 := by rw [cwx_1, up_ne (by omega), up_ne (by omega), cwx0_ne (by omega)]
  obtain ⟨k, hk, hm, -⟩ := G_many h2 (g := 0) (by decide)
  have hm' : gw_up (cwx e 1 (nI 1) (nI (4 * p + w)) (gw_up μ e 12 (nI p) e 7) (gw_up μ e 12 (nI p))) e 6 1 (e + (gg_c 0 + 1)) 3 = nI k := by rw [up_ne (by omega)]; exact hm
  rw [hh] at k2
  have hdv : nI (4 * p + w) / (4 : Int32) = nI p := by
    have := pk_div (a := 4 * p + w) (d := 4) (by omega) (by decide) (by decide)
    rw [show (4 * p + w) / 4 = p by omega] at this
    exact this
  refine ⟨?_, _, ?_, k2⟩
  · have hc' : F_X2_writeExit n (e + 25) 1 1 (nI (4 * p + w)) (gw_up μ e 12 (nI p) e 7) (gw_up μ e 12 (nI p)) = some (cwx e 1 (nI 1) (nI (4 * p + w)) (gw_up μ e 12 (nI p) e 7) (gw_up μ e 12 (nI p))) := hc
    simp only [F_X3_dealToOuter, hc', Option.bind_some, gw_let]
    rw [if_pos (by decide), show Int32.toNatClampNeg 1 = 1 from rfl, up_ne (a' := e + 20) (by omega), hh]
    have := c_goTo (n := n) (g := 0) hk hm' (gw_up μ e 12 (nI p) (e + 20) 1)
    have t2 : F_X7_goTo n (e + 13) (gw_up μ e 12 (nI p) (e + 20) 1) (gw_up (cwx e 1 (nI 1) (nI (4 * p + w)) (gw_up μ e 12 (nI p) e 7) (gw_up μ e 12 (nI p))) e 6 1) = _ := this
    rw [t2, Option.bind_some, ← hm']
    rfl
  · have e1' : F_X11_writeExit n m 1 1 (nI (4 * p + w)) s = some s' := e1
    simp only [F_X11_deal, e1', Option.bind_some, gw_let]
    rw [if_neg (by decide), hdv]
    rw [show gw_up (gw_up (gw_up s' (m + 1) 13 1) (m + 1) 14 (nI (4 * p + w))) (m + 1) 16 (nI p) = gw_up (gw_up (gw_up s' (m + 1) 16 (nI p)) (m + 1) 13 (nI 1)) (m + 1) 14 (nI (4 * p + w)) from by
      rw [up_comm (j := 14) (j' := 16) (by omega), up_comm (j := 13) (j' := 16) (by omega)]; rfl]
    exact k1
end EXIT2
