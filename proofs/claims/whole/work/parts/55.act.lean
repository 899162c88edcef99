/-! ===== acts ===== -/
def dO (n e : Nat) (w_7 w_9 w_11 : Int32) (μ : gw_M) : Option gw_M := (if w_7 = (0 : Int32) then F_X3_actOfOuter_108 n e w_7 w_9 w_11 μ else (if w_7 = ((0 : Int32) + 1) then F_X3_actOfOuter_108 n e w_7 w_9 w_11 μ else (if w_7 = (((0 : Int32) + 1) + 1) then F_X3_actOfOuter_108 n e w_7 w_9 w_11 μ else (if w_7 = ((((0 : Int32) + 1) + 1) + 1) then (gw_bi (F_X3_eventOfOuter n e w_9 μ) (fun (r_16 : Int32) (μ_17 : gw_M) => some μ_17)) else (if w_7 = (((((0 : Int32) + 1) + 1) + 1) + 1) then gw_let (gw_up μ (e + 12) 4 1) (fun (μ_21 : gw_M) => some μ_21) else (if w_7 = ((((((0 : Int32) + 1) + 1) + 1) + 1) + 1) then gw_let (gw_up μ (e + 12) 4 0) (fun (μ_23 : gw_M) => some μ_23) else (if w_7 = (((((((0 : Int32) + 1) + 1) + 1) + 1) + 1) + 1) then (F_X3_enterInner n e μ).bind (fun (μ_26 : gw_M) => some μ_26) else (if w_7 = ((((((((0 : Int32) + 1) + 1) + 1) + 1) + 1) + 1) + 1) then (F_X3_tellInner n e w_9 w_11 7 μ).bind (fun (μ1 : gw_M) => some μ1) else (if w_7 = (((((((((0 : Int32) + 1) + 1) + 1) + 1) + 1) + 1) + 1) + 1) then (F_X3_inHand n e μ).bind (fun (r_35 : Nat) => (F_X0_await n (r_35 + 1) w_9 (μ e 7) μ).bind (fun (μ_40 : gw_M) => some μ_40)) else (if w_7 = ((((((((((0 : Int32) + 1) + 1) + 1) + 1) + 1) + 1) + 1) + 1) + 1) then (F_X3_tellMissed n e w_9 μ).bind (fun (μ_45 : gw_M) => some μ_45) else (if w_7 = (((((((((((0 : Int32) + 1) + 1) + 1) + 1) + 1) + 1) + 1) + 1) + 1) + 1) then (gw_bi (F_X0_endService n (e + 12) μ) (fun (r_49 : Int32) (μ_50 : gw_M) => some μ_50)) else (if w_7 = ((((((((((((0 : Int32) + 1) + 1) + 1) + 1) + 1) + 1) + 1) + 1) + 1) + 1) + 1) then (F_X3_switchUnlessInHand n e w_9 μ).bind (fun (μ_55 : gw_M) => some μ_55) else some μ))))))))))))
def dI (n e p1 : Nat) (v3 w_11 w_13 w_15 : Int32) (μ : gw_M) : Option gw_M := (if w_11 = (0 : Int32) then F_X3_actOfInner_100 n e p1 v3 w_11 w_13 w_15 μ else (if w_11 = ((0 : Int32) + 1) then F_X3_actOfInner_100 n e p1 v3 w_11 w_13 w_15 μ else (if w_11 = (((0 : Int32) + 1) + 1) then F_X3_actOfInner_100 n e p1 v3 w_11 w_13 w_15 μ else (if w_11 = ((((0 : Int32) + 1) + 1) + 1) then (gw_bi (F_X3_eventOfInner n e w_13 μ) (fun (r_20 : Int32) (μ_21 : gw_M) => some μ_21)) else (if w_11 = (((((0 : Int32) + 1) + 1) + 1) + 1) then gw_let (gw_up μ (p1 + 1) 4 1) (fun (μ_25 : gw_M) => some μ_25) else (if w_11 = ((((((0 : Int32) + 1) + 1) + 1) + 1) + 1) then gw_let (gw_up μ (p1 + 1) 4 0) (fun (μ_27 : gw_M) => some μ_27) else (if w_11 = (((((((0 : Int32) + 1) + 1) + 1) + 1) + 1) + 1) then F_X3_actOfInner_162 n e p1 w_11 w_13 w_15 μ else (if w_11 = ((((((((0 : Int32) + 1) + 1) + 1) + 1) + 1) + 1) + 1) then (gw_bi (F_X0_endService n (p1 + 1) μ) (fun (r_30 : Int32) (μ_31 : gw_M) => some μ_31)) else F_X3_actOfInner_162 n e p1 w_11 w_13 w_15 μ))))))))
def dM (n m : Nat) (w_1 v2 v9 w_11 w_13 w_15 : Int32) (μ : gw_M) : Option gw_M := (if 3 ≤ w_11 then (if ¬ w_11 = 3 then (if 6 ≤ w_11 then (if ¬ w_1 = 1 then (F_X11_actInner n m w_11 w_13 w_15 μ).bind (fun (μ_25 : gw_M) => some μ_25) else (F_X11_actOuter n m w_11 w_13 w_15 μ).bind (fun (μ_29 : gw_M) => some μ_29)) else (if ¬ w_11 = 4 then F_X11_actNow_201 n m (v2 + (2 : Int32)) 0 μ else F_X11_actNow_201 n m (v2 + (2 : Int32)) 1 μ)) else (gw_bi (F_X11_eventNow n m w_13 μ) (fun (r_33 : Int32) (μ_34 : gw_M) => some μ_34))) else gw_let ((μ (m + 1) 7)) (fun (w_37 : Int32) => (gw_bi (F_X11_touchNow n m w_13 w_11 w_15 μ) (fun (r_38 : Int32) (μ_39 : gw_M) => (if (μ_39 (m + 1) 7) ≤ w_37 then F_X11_actNow_154 n m v2 v9 r_38 0 μ_39 else F_X11_actNow_154 n m v2 v9 r_38 1 μ_39)))))
theorem tr_na : ∀ h < 3, ∀ k < 9, na k (363 + 162 * h) = false ∧ na k (365 + 162 * h) = false := by decide +kernel
section ACT
variable {b e m n h : Nat} {K N : gw_M} {L3 L2 L : List Nat} {μ s : gw_M}
theorem G_act (hG : G b e m K N L3 L2 μ s) {g M : Nat} (hg : g < 4) (hM : s (m + 1) (64 + 162 * g) = nI M) (hM0 : M ≠ 0) (hM24 : M ≤ 24) : ∃ p k x y, p < M ∧ μ (e + (gg_c g + 1)) 4 = nI p ∧ s (m + 1) (63 + 162 * g) = nI p ∧ μ (e + (gg_c g + 2)) p = nI k ∧ μ (e + (gg_c g + 3)) p = nI x ∧ μ (e + (gg_c g + 4)) p = nI y ∧ s (m + 1) (65 + 162 * g + 3 * p) = nI k ∧ s (m + 1) (66 + 162 * g + 3 * p) = nI x ∧ s (m + 1) (67 + 162 * g + 3 * p) = nI y ∧ k ≤ 11 ∧ x ≤ 15 ∧ y ≤ 9999 ∧ (k = 3 → x ≤ 7) ∧ (k = 11 → x ≤ 2) ∧ (k ≠ 1 → y ≤ 15) ∧ (g ≠ 0 → k ≤ 9) := by
  obtain ⟨p, hp, p1, p2⟩ := G_n hG (gd_g g hg).2.2.2.2.2.1 (n := 23) (gd_gq g hg).2.2.2.1
  obtain ⟨q1, q2⟩ := G_q hG 1 (by decide) g hg
  rw [p2, hM, nI_toInt (by omega), nI_toInt (by omega)] at q1
  have hpM : p < M := by
    rcases q1 with q1 | q1
    · have := nI_inj (b := 0) (by omega) (by omega) q1
      omega
    · omega
  obtain ⟨a1, a2, a3, a4⟩ := q2 p (by rw [hM, nI_toInt (by omega)]; omega) (by omega)
  obtain ⟨c1, c2, c3, c4, c5, c6, c7, c8, c9, c10⟩ := a4
  obtain ⟨k, hk, k1⟩ := nI_of_rg (n := 11) c1 (by omega)
  obtain ⟨x, hx, x1⟩ := nI_of_rg (n := 15) c3 (by omega)
  obtain ⟨y, hy, y1⟩ := nI_of_rg (n := 9999) c5 (by omega)
  rw [k1, x1, nI_toInt (by omega)] at c7 c8
  rw [k1, y1, nI_toInt (by omega)] at c9
  rw [k1, nI_toInt (by omega)] at c10
  refine ⟨p, k, x, y, hpM, p1, p2, a1.symm.trans k1, a2.symm.trans x1, a3.symm.trans y1, k1, x1, y1, hk, hx, hy, fun c => ?_, fun c => ?_, fun c => ?_, fun c => ?_⟩
  · subst c
    have := c7 rfl
    omega
  · subst c
    have := c8 rfl
    omega
  · have := c9 (fun d => c (nI_inj (b := 1) (by omega) (by omega) d))
    omega
  · have := c10 c
    omega
theorem c_adv {a p M : Nat} (h4 : μ a 4 = nI p) (h3 : μ a 3 = nI M) (hp : p < M) (hM : M ≤ 24) : F_X7_advance n a μ = some (nI p, gw_up μ a 4 (nI ((p + 1) % M))) := by
  simp only [F_X7_advance, gw_let, h4, h3, nI_1]
  by_cases hc : M ≤ p + 1
  · have : p + 1 = M := by omega
    rw [if_pos (nI_le (by omega) (by omega)), show (p + 1) % M = 0 by rw [this, Nat.mod_self]]
    rfl
  · rw [if_neg (nI_ge (by omega) (by omega)), Nat.mod_eq_of_lt (by omega)]
theorem c_actO {M p k x y : Nat} (h3 : μ (e + 13) 3 = nI M) (hM0 : M ≠ 0) (hM24 : M ≤ 24) (hp : p < M) (h4 : μ (e + 13) 4 = nI p) (a1 : μ (e + 14) p = nI k) (a2 : μ (e + 15) p = nI x) (a3 : μ (e + 16) p = nI y) : F_X3_actOfOuter n e μ = dO n e (nI k) (nI x) (nI y) (gw_up μ (e + 13) 4 (nI ((p + 1) % M))) := by
  have hc : 0 ≤ nI p ∧ p < 24 := ⟨nI_pos' (by omega), by omega⟩
  have hz : ¬ nI M = 0 := fun c => hM0 (nI_inj (b := 0) (by omega) (by omega) c)
  simp only [F_X3_actOfOuter, h3, c_adv h4 h3 hp hM24, bi_some, nI_clamp (show p < 2 ^ 31 by omega), if_pos hc, gw_let]
  rw [if_pos hz, up_ne (a := e + 13) (a' := e + 14) (by omega), up_ne (a := e + 13) (a' := e + 15) (by omega), up_ne (a := e + 13) (a' := e + 16) (by omega), a1, a2, a3]
  rfl
theorem c_actI {M p k x y : Nat} (hh : h < 3) (h5 : μ e 5 = nI h) (h3 : μ (e + (gg_c (1 + h) + 1)) 3 = nI M) (hM0 : M ≠ 0) (hM24 : M ≤ 24) (hp : p < M) (h4 : μ (e + (gg_c (1 + h) + 1)) 4 = nI p) (a1 : μ (e + (gg_c (1 + h) + 2)) p = nI k) (a2 : μ (e + (gg_c (1 + h) + 3)) p = nI x) (a3 : μ (e + (gg_c (1 + h) + 4)) p = nI y) : F_X3_actOfInner n e μ = dI n e (e + 37 + 15 * h) (nI p) (nI k) (nI x) (nI y) (gw_up μ (e + (gg_c (1 + h) + 1)) 4 (nI ((p + 1) % M))) := by
  have hc : 0 ≤ nI p ∧ p < 24 := ⟨nI_pos' (by omega), by omega⟩
  have hz : ¬ nI M = 0 := fun c => hM0 (nI_inj (b := 0) (by omega) (by omega) c)
  rw [gg_c1] at h3 h4 a1 a2 a3 ⊢
  rw [show e + (38 + 15 * h + 1) = e + 37 + 15 * h + 2 by omega] at h3 h4 ⊢
  rw [show e + (38 + 15 * h + 2) = e + 37 + 15 * h + 3 by omega] at a1
  rw [show e + (38 + 15 * h + 3) = e + 37 + 15 * h + 4 by omega] at a2
  rw [show e + (38 + 15 * h + 4) = e + 37 + 15 * h + 5 by omega] at a3
  simp only [F_X3_actOfInner, c_inHand hh h5, Option.bind_some, h3, c_adv h4 h3 hp hM24, bi_some, nI_clamp (show p < 2 ^ 31 by omega), if_pos hc, gw_let]
  rw [if_pos hz, up_ne (a := e + 37 + 15 * h + 2) (a' := e + 37 + 15 * h + 3) (by omega), up_ne (a := e + 37 + 15 * h + 2) (a' := e + 37 + 15 * h + 4) (by omega), up_ne (a := e + 37 + 15 * h + 2) (a' := e + 37 + 15 * h + 5) (by omega), a1, a2, a3]
  rfl
theorem m_actNow {lv : Int32} {g M p k x y : Nat} (hlv : s (m + 1) 2 = lv) (hg : gg_is s m lv g) (hM : s (m + 1) (64 + 162 * g) = nI M) (hM0 : M ≠ 0) (hM24 : M ≤ 24) (hp : p < M) (h4 : s (m + 1) (63 + 162 * g) = nI p) (a1 : s (m + 1) (65 + 162 * g + 3 * p) = nI k) (a2 : s (m + 1) (66 + 162 * g + 3 * p) = nI x) (a3 : s (m + 1) (67 + 162 * g + 3 * p) = nI y) : F_X11_actNow n m s = dM n m lv (nI (58 + 162 * g)) (nI p) (nI k) (nI x) (nI y) (gw_up s (m + 1) (63 + 162 * g) (nI ((p + 1) % M))) := by
  have hg4 := gg_lt hg
  have hz : ¬ nI M = 0 := fun c => hM0 (nI_inj (b := 0) (by omega) (by omega) c)
  have ga : F_X11_guestAt n m lv s = some (nI (58 + 162 * g)) := (m_guestAt (n := n) hg).1
  have i6 : nI (58 + 162 * g) + (6 : Int32) = nI (64 + 162 * g) := by rw [show (6 : Int32) = nI 6 from rfl, nI_add]; congr 1; omega
  have i5 : nI (58 + 162 * g) + (5 : Int32) = nI (63 + 162 * g) := by rw [show (5 : Int32) = nI 5 from rfl, nI_add]; congr 1; omega
  have i7 : nI (58 + 162 * g) + (7 : Int32) + (3 : Int32) * nI p = nI (65 + 162 * g + 3 * p) := by rw [show (7 : Int32) = nI 7 from rfl, show (3 : Int32) = nI 3 from rfl, pk_mul, nI_add, nI_add]; congr 1; omega
  have i8 : nI (65 + 162 * g + 3 * p) + (1 : Int32) = nI (66 + 162 * g + 3 * p) := by rw [nI_1]; congr 1; omega
  have i9 : nI (65 + 162 * g + 3 * p) + (2 : Int32) = nI (67 + 162 * g + 3 * p) := by rw [show (2 : Int32) = nI 2 from rfl, nI_add]; congr 1; omega
  have c1 : 0 ≤ nI (64 + 162 * g) ∧ 64 + 162 * g < 20813 := ⟨nI_pos' (by omega), by omega⟩
  have c2 : 0 ≤ nI (63 + 162 * g) ∧ 63 + 162 * g < 20813 := ⟨nI_pos' (by omega), by omega⟩
  have c3 : 0 ≤ nI (65 + 162 * g + 3 * p) ∧ 65 + 162 * g + 3 * p < 20813 := ⟨nI_pos' (by omega), by omega⟩
  have c4 : 0 ≤ nI (66 + 162 * g + 3 * p) ∧ 66 + 162 * g + 3 * p < 20813 := ⟨nI_pos' (by omega), by omega⟩
  have c5 : 0 ≤ nI (67 + 162 * g + 3 * p) ∧ 67 + 162 * g + 3 * p < 20813 := ⟨nI_pos' (by omega), by omega⟩
  have rm : nI p + 1 - (nI p + 1) / nI M * nI M = nI ((p + 1) % M) := by rw [nI_1]; exact pk_rem (by omega) (by omega) (by omega)
  simp only [F_X11_actNow, gw_let, hlv, ga, Option.bind_some, i6, i5, nI_clamp (show 64 + 162 * g < 2 ^ 31 by omega), nI_clamp (show 63 + 162 * g < 2 ^ 31 by omega), if_pos c1, if_pos c2, hM, h4, i7, i8, i9, nI_clamp (show 65 + 162 * g + 3 * p < 2 ^ 31 by omega), nI_clamp (show 66 + 162 * g + 3 * p < 2 ^ 31 by omega), nI_clamp (show 67 + 162 * g + 3 * p < 2 ^ 31 by omega), if_pos c3, if_pos c4, if_pos c5, a1, a2, a3, if_pos hz, rm]
  rfl
theorem m_hasPlace {g M : Nat} (hg : g < 4) (hM : s (m + 1) (64 + 162 * g) = nI M) (v : Int32) : F_X11_hasPlace n m (nI (58 + 162 * g)) v s = some (isin v 0 (nI M - 1)) := by
  have i6 : nI (58 + 162 * g) + (6 : Int32) = nI (64 + 162 * g) := by rw [show (6 : Int32) = nI 6 from rfl, nI_add]; congr 1; omega
  simp only [F_X11_hasPlace, i6, nI_clamp (show 64 + 162 * g < 2 ^ 31 by omega), hM, m_isIn, Option.bind_some]
  rw [if_pos ⟨nI_pos' (by omega), by omega⟩]
theorem isin_1 {p M : Nat} (hp : p < M) (hM : M ≤ 24) : isin (nI p) 0 (nI M - 1) = 1 := by
  obtain ⟨z, rfl⟩ : ∃ z, M = z + 1 := ⟨M - 1, by omega⟩
  unfold isin
  rw [nI_pred, if_neg (nI_pos (by omega)), if_neg (nI_nlt (by omega) (by omega))]
theorem c_goToI {M : Nat} (hM24 : M ≤ 24) (h3 : μ (e + (gg_c (1 + h) + 1)) 3 = nI M) (v : Int32) : F_X7_goTo n (e + 37 + 15 * h + 2) v μ = some (if isin v 0 (nI M - 1) = 0 then μ else gw_up μ (e + (gg_c (1 + h) + 1)) 4 v) := by
  rw [show e + 37 + 15 * h + 2 = e + (gg_c (1 + h) + 1) by rw [gg_c1]; omega]
  exact c_goTo hM24 h3 v
theorem sim_lead (hG : G b e m K N L3 L2 μ s) (hh : h < 3) {M p : Nat} (hM : s (m + 1) (64 + 162 * (1 + h)) = nI M) (hM24 : M ≤ 24) (hp : p < M) {r o : Int32} (ho : o = if r = -2 ∧ sr (μ (e + 19) 1) (μ (e + 19) 0) 0 = 2 then 1 else 0) : ∃ μ' s', F_X3_lead n e (e + 37 + 15 * h) (nI p) r μ = some μ' ∧ F_X11_goOnBy n m (nI (58 + 162 * (1 + h))) (nI p) r o s = some s' ∧ G b e m K N L3 L2 μ' s' ∧ μ' e 7 = μ e 7 := by
  have h3 : μ (e + (gg_c (1 + h) + 1)) 3 = nI M := (G_rd hG (gd_g (1 + h) (by omega)).2.2.2.2.2.2).symm.trans hM
  have i5 : nI (58 + 162 * (1 + h)) + (5 : Int32) = nI (63 + 162 * (1 + h)) := by rw [show (5 : Int32) = nI 5 from rfl, nI_add]; congr 1; omega
  have i145 : nI (58 + 162 * (1 + h)) + (144 : Int32) + (1 : Int32) = nI (365 + 162 * h) := by rw [show (144 : Int32) = nI 144 from rfl, nI_add, nI_1]; congr 1; omega
  have i143 : nI (58 + 162 * (1 + h)) + (143 : Int32) = nI (363 + 162 * h) := by rw [show (143 : Int32) = nI 143 from rfl, nI_add]; congr 1; omega
  have c5 : 0 ≤ nI (63 + 162 * (1 + h)) ∧ 63 + 162 * (1 + h) < 20813 := ⟨nI_pos' (by omega), by omega⟩
  have c145 : 0 ≤ nI (365 + 162 * h) ∧ 365 + 162 * h < 20813 := ⟨nI_pos' (by omega), by omega⟩
  have c143 : 0 ≤ nI (363 + 162 * h) ∧ 363 + 162 * h < 20813 := ⟨nI_pos' (by omega), by omega⟩
  have gr := gg_c1 h
  obtain ⟨j1, j2, j3, j4, j5, j6⟩ := gd_i3 h hh
  simp only [F_X11_goOnBy, i5, i145, i143, nI_clamp (show 63 + 162 * (1 + h) < 2 ^ 31 by omega), nI_clamp (show 365 + 162 * h < 2 ^ 31 by omega), nI_clamp (show 363 + 162 * h < 2 ^ 31 by omega), if_pos c5, if_pos c145, if_pos c143, gw_let]
  by_cases hr3 : r = -3
  · have ho0 : o = 0 := by rw [ho, if_neg (fun c => absurd (hr3.symm.trans c.1) (by decide))]
    rw [F_X3_lead, if_neg (not_not_intro hr3), if_neg (not_not_intro hr3), ho0, if_neg (not_not_intro rfl), c_goToI hM24 h3, isin_1 hp hM24, if_neg (by decide), Option.bind_some]
    exact ⟨_, _, rfl, rfl, G_place hG (by omega) (by omega) (by rw [hM, nI_toInt (by omega)]; omega), up_ne (by omega)⟩
  · rw [F_X3_lead, if_pos hr3, if_pos hr3]
    have cs : F_X3_seerOfInner n e 0 μ = some (sr (μ (e + 19) 1) (μ (e + 19) 0) 0) := c_seer (n := n) (k := 0) (by decide)
    by_cases hc : r = -2 ∧ sr (μ (e + 19) 1) (μ (e + 19) 0) 0 = 2
    · rw [if_pos hc] at ho
      rw [ho, if_neg (not_not_intro hc.1), cs, Option.bind_some, if_neg (not_not_intro hc.2), if_pos (by decide), F_X1_trapAt]
      have G1 := G_fr hG j3 (v := nI p) (gq_nI (n := 23) j6 (by decide) (by omega) (by decide)) (fun k hk => (tr_na h hh k hk).2)
      have hM1 : gw_up s (m + 1) (365 + 162 * h) (nI p) (m + 1) (64 + 162 * (1 + h)) = nI M := by rw [up_ne (by omega)]; exact hM
      have h31 : gw_up μ (e + 37 + 15 * h) 5 (nI p) (e + (gg_c (1 + h) + 1)) 3 = nI M := by rw [up_ne (by omega)]; exact h3
      have hv : gw_up s (m + 1) (365 + 162 * h) (nI p) (m + 1) (363 + 162 * h) = μ (e + 37 + 15 * h) 3 := by rw [up_ne (by omega), G_rd hG j1]; congr 1; omega
      simp only [gw_let]
      rw [m_hasPlace (by omega) hM1, Option.bind_some, hv, up_ne (j := 5) (j' := 3) (by omega), c_goToI hM24 h31, Option.bind_some]
      have G2 := sim_goTo G1 (g := 1 + h) (by omega) hM24 hM1 (μ (e + 37 + 15 * h) 3)
      rw [show e + (37 + 15 * h) = e + 37 + 15 * h by omega] at G2
      refine ⟨_, if isin (μ (e + 37 + 15 * h) 3) 0 (nI M - 1) = 0 then gw_up s (m + 1) (365 + 162 * h) (nI p) else gw_up (gw_up s (m + 1) (365 + 162 * h) (nI p)) (m + 1) (63 + 162 * (1 + h)) (μ (e + 37 + 15 * h) 3), rfl, ?_, G2, ?_⟩
      · split <;> rfl
      · split
        · rw [up_ne (by omega)]
        · rw [up_ne (by omega), up_ne (by omega)]
    · rw [if_neg hc] at ho
      rw [ho, if_neg (not_not_intro rfl)]
      refine ⟨μ, s, ?_, rfl, hG, rfl⟩
      by_cases h2 : r = -2
      · rw [if_neg (not_not_intro h2), cs, Option.bind_some, if_pos (fun c => hc ⟨h2, c⟩)]
      · rw [if_pos h2]
end ACT
