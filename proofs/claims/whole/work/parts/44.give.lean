/-! ===== frames are given ===== -/
theorem bt_nI {k i : Nat} (hk : k < 1024) (hi : 10 ≤ i) : bt (nI k) i = false := by
  by_cases h32 : i < 32
  · unfold bt
    rw [BitVec.getLsbD, pk_tn (by omega)]
    exact Nat.testBit_lt_two_pow (Nat.lt_of_lt_of_le hk (Nat.le_trans (by decide : 1024 ≤ 2 ^ 10) (Nat.pow_le_pow_right (by decide) hi)))
  · exact b_big (by omega)
theorem b_1023 : ∀ i, i < 32 → bt 1023 i = decide (i < 10) := by decide +kernel
theorem small10 {x : Int32} (h : ∀ i, 10 ≤ i → i < 32 → bt x i = false) : ∃ X, X < 1024 ∧ x = nI X := by
  have h1 : x &&& 1023 = x := by
    apply b_ext
    intro i hi
    rw [b_and, b_1023 i hi]
    by_cases h10 : i < 10
    · simp [h10]
    · rw [h i (by omega) hi]; rfl
  have h2 := pk_and x (m := 1023) 10 (by decide)
  rw [h1] at h2
  exact ⟨_, Nat.mod_lt _ (by decide), h2⟩
theorem or_rg {k f : Nat} (hk : k ≤ 1023) (hf : f ≤ 9) : ∃ k', k' ≤ 1023 ∧ nI k ||| ((1 : Int32) <<< (nI f &&& 31)) = nI k' := by
  obtain ⟨X, h1, h2⟩ := small10 (x := nI k ||| ((1 : Int32) <<< (nI f &&& 31))) (fun i h1 h2 => by
    rw [b_set _ (by omega) h2, bt_nI (by omega) h1, Bool.false_or]
    exact decide_eq_false (by omega))
  exact ⟨X, by omega, h2⟩
theorem cuf_cl2 {e q : Nat} {to rt : Int32} {P : Nat → Bool} {μ : gw_M} : cuf e P (cl2 e q to rt μ) = cl2 e q to rt (cuf e P μ) := by
  unfold cl2
  rw [cuf_up (by omega), cuf_up (by omega), cuf_up (by omega), cuf_ne (show ¬ (e + 1 = e + 9 ∨ e + 1 = e + 10) by omega)]
theorem cuf_cput2 {e q : Nat} {to rt : Int32} {P : Nat → Bool} {μ : gw_M} : cuf e P (cput (e + 2) q to rt μ) = cput (e + 2) q to rt (cuf e P μ) := by
  unfold cput
  rw [cuf_up (by omega), cuf_up (by omega), cuf_up (by omega), cuf_up (by omega), cuf_ne (show ¬ (e + 2 = e + 9 ∨ e + 2 = e + 10) by omega)]
def tOK (e h : Nat) (μ : gw_M) : Prop := ∀ p, p < 16 → μ (e + 49 + 15 * h) p = -1 ∨ ∃ q, q ≤ 15 ∧ μ (e + 49 + 15 * h) p = nI q
def Pm (e h : Nat) (x : Int32) (μ : gw_M) : Nat → Bool := fun z => decide (μ (e + 49 + 15 * h) z ≠ -1) && bt x (μ (e + 49 + 15 * h) z).toNatClampNeg
section GIVE
variable {b e m n h : Nat} {K N : gw_M} {L3 L2 L : List Nat} {μ s : gw_M} {P : Nat → Bool}
theorem G_tOK (hG : G b e m K N L3 L2 μ s) (hh : h < 3) : tOK e h μ := by
  intro p hp
  obtain ⟨h1, -, h3, -⟩ := gd_e hh (t := 1) (by decide) hp
  have := G_n1 hG h1 (n := 15) h3
  rw [show e + (45 + 15 * h + 4 * 1) = e + 49 + 15 * h by omega] at this
  rcases this with ⟨w, -⟩ | ⟨k, hk, w, -⟩
  · exact Or.inl w
  · exact Or.inr ⟨k, hk, w⟩
theorem tOK_cg {μ' : gw_M} (ht : tOK e h μ) (hr : ∀ p, μ' (e + 49 + 15 * h) p = μ (e + 49 + 15 * h) p) : tOK e h μ' := fun p hp => by rw [hr]; exact ht p hp
theorem Pm_cg {μ' : gw_M} {x : Int32} (hr : ∀ p, μ' (e + 49 + 15 * h) p = μ (e + 49 + 15 * h) p) : Pm e h x μ' = Pm e h x μ := by
  funext z
  unfold Pm
  rw [hr]
theorem tob_cg {μ' : gw_M} {q : Nat} (hr : ∀ p, μ' (e + 49 + 15 * h) p = μ (e + 49 + 15 * h) p) : tob e h q μ' = tob e h q μ := by
  funext z
  unfold tob
  rw [hr]
theorem Pm_or (ht : tOK e h μ) {x : Int32} {q z : Nat} (hq : q < 16) (hz : z < 16) : Pm e h (x ||| ((1 : Int32) <<< (nI q &&& 31))) μ z = (Pm e h x μ z || tob e h q μ z) := by
  unfold Pm tob
  rcases ht z hz with h1 | ⟨r, hr, h1⟩
  · rw [h1]
    have : ¬ (-1 : Int32) = nI q := fun c => by
      have := nI_m1 (k := q) (by omega)
      rw [eq_comm, this] at c
      exact c
    simp [this]
  · have hm : ¬ nI r = -1 := by rw [nI_m1 (by omega)]; exact id
    rw [h1, nI_clamp (by omega), b_set x (by omega) (by omega), decide_eq_true hm, Bool.true_and, Bool.true_and]
    congr 1
    rw [decide_eq_decide, nI_eqT (by omega) (by omega)]
theorem Pm_one (ht : tOK e h μ) {q z : Nat} (hq : q < 16) (hz : z < 16) : Pm e h ((1 : Int32) <<< (nI q &&& 31)) μ z = tob e h q μ z := by
  unfold Pm tob
  rcases ht z hz with h1 | ⟨r, hr, h1⟩
  · rw [h1]
    have : ¬ (-1 : Int32) = nI q := fun c => by
      have := nI_m1 (k := q) (by omega)
      rw [eq_comm, this] at c
      exact c
    simp [this]
  · have hm : ¬ nI r = -1 := by rw [nI_m1 (by omega)]; exact id
    rw [h1, nI_clamp (by omega), b_one (by omega) (by omega), decide_eq_true hm, Bool.true_and, decide_eq_decide, nI_eqT (by omega) (by omega)]
theorem c_unf (hn : 1000 ≤ n) (hh : h < 3) (h1 : μ e 5 = nI h) (ht : tOK e h μ) (x : Int32) : F_X3_unfold n e x μ = some (cuf e (Pm e h x μ) μ) := by
  obtain ⟨μ', e1, u1⟩ := c_unfold (n := n) hn hh h1 x ht
  rw [e1, cuf_of u1]
  rfl
theorem c_unf1 (hn : 1000 ≤ n) (hh : h < 3) (h1 : μ e 5 = nI h) (ht : tOK e h μ) {q : Nat} (hq : q < 16) : F_X3_unfold n e ((1 : Int32) <<< (nI q &&& 31)) μ = some (cuf e (tob e h q μ) μ) := by
  rw [c_unf hn hh h1 ht]
  congr 1
  exact cuf_cg (fun p hp => Pm_one ht hq hp)
theorem c_storeAway {p f : Nat} (hp : p < 16) (hf : f ≤ 9) (h1 : μ (e + 3) p = nI f) : F_X4_storeAway n (e + 1) (nI p) μ = some (cl2 e p (-1) 0 (gw_up μ (e + 7) p (μ (e + 6) f))) := by
  have hc : 0 ≤ nI p ∧ p < 16 := ⟨nI_pos' (by omega), hp⟩
  have hcf : 0 ≤ nI f ∧ f < 10 := ⟨nI_pos' (by omega), by omega⟩
  have hm : ¬ nI f = -1 := by rw [nI_m1 (by omega)]; exact id
  simp only [F_X4_storeAway, gw_let, nI_clamp (show p < 2 ^ 31 by omega), if_pos hc, Nat.add_assoc, Nat.reduceAdd, h1, if_pos hm, nI_clamp (show f < 2 ^ 31 by omega), if_pos hcf]
  unfold cl2
  rw [up_ne (a := e + 4) (a' := e + 1) (by omega), up_ne (a := e + 3) (a' := e + 1) (by omega)]
  rfl
/-- one is swapped out; the class's unfolding waits -/
theorem sim_swap (hn : 1000 ≤ n) (hG : G b e m K N L3 L2 (cuf e P μ) s) (hb : b + 1 < 2 ^ 28) (hh : h < 3) (h1 : s (m + 1) 15 = nI h) {p : Nat} (hd1 : hd L2 = nI p) (hp : p ∈ L2) : ∃ f s', p < 16 ∧ f ≤ 9 ∧ μ (e + 3) p = nI f ∧ F_X11_swapOut n m s = some s' ∧ (∃ L3', G (b + 1) e m K N L3' (L2.filter (fun z => decide (z ≠ p))) (cuf e (fun z => P z || tob e h p μ z) (gw_up (cl2 e p (-1) 0 (gw_up μ (e + 7) p (μ (e + 6) f))) (e + 1) 5 (μ (e + 1) 5 + 1))) s') ∧ s' (m + 1) 15 = nI h := by
  obtain ⟨⟨l1, l2, l3, l4, l5⟩, -⟩ := G_q hG 5 (by decide)
  have hp16 := ((l2 p).mp hp).1
  have h738 : s (m + 1) 738 = nI p := by
    match L2, hd1, l5, hp, l2 with
    | q :: L', hd1, l5, hp, l2 =>
      have h2 : nI q = nI p := hd1
      have h3 : s (m + 1) (738 + 0) = nI q := l5 0 q rfl
      rw [← h2]; exact h3
  have hne := ((l2 p).mp hp).2
  rcases G_sh hG hp16 with ⟨-, w⟩ | ⟨f, hf, w1, w2⟩
  · exact absurd w hne
  · rw [cuf_ne (by omega)] at w1
    obtain ⟨v, hv, v1, v2⟩ := G_n hG (gd_fr f (by omega)).1 (gd_fr f (by omega)).2
    rw [cuf_ne (show ¬ (e + 6 = e + 9 ∨ e + 6 = e + 10) by omega)] at v1
    obtain ⟨sw, hsw, s1, s2⟩ := G_nb hG (i := 8) (c := 1) (j := 5) (by decide +kernel) (by decide +kernel)
    rw [cuf_ne (show ¬ (e + 1 = e + 9 ∨ e + 1 = e + 10) by omega)] at s1
    have hbb := G_b hG
    have G1 := G_fr (G_mono hG (Nat.le_succ b) hb) (i := 812 + p) (c := 7) (j := p) (gd_t2 p hp16).2.2.2.2 (v := nI v) (gq_nI (n := 9999) (gd_q2 p hp16).2.2.2.2 (by decide) hv (by decide)) (by
      have : ∀ p < 16, ∀ k < 9, na k (812 + p) = false := by decide +kernel
      exact this p hp16)
    have G2 := G_fr G1 (i := 8) (c := 1) (j := 5) (by decide +kernel) (v := nI (sw + 1)) (gq_b (by decide +kernel) (by omega) (by omega)) (by decide +kernel)
    obtain ⟨s', e1, G3⟩ := sim_lay2_drop (n := n) hn G2 hh (by rw [up_ne (by omega), up_ne (by omega)]; exact h1) hp16
    refine ⟨f, s', hp16, hf, w1, ?_, ?_, ?_⟩
    · simp only [F_X11_swapOut, gw_let, h738, m_to2 (n := n) (m := m) (s := s) hp16, Option.bind_some, w2, show (802 : Int32) = nI 802 from rfl, show (812 : Int32) = nI 812 from rfl, nI_add, nI_clamp (show 802 + f < 2 ^ 31 by omega), nI_clamp (show 812 + p < 2 ^ 31 by omega), v2]
      rw [if_pos ⟨nI_pos' (by omega), by omega⟩, if_pos ⟨nI_pos' (by omega), by omega⟩, up_ne (j' := 8) (by omega), s2, nI_1, e1, Option.bind_some]
    · have ht : tob e h p (gw_up (gw_up (cuf e P μ) (e + 7) p (nI v)) (e + 1) 5 (nI (sw + 1))) = tob e h p μ := tob_cg (fun q => by rw [up_ne (by omega), up_ne (by omega), cuf_ne (by omega)])
      rw [ht] at G3
      have hc : cl2 e p (-1) 0 (cuf e (tob e h p μ) (gw_up (gw_up (cuf e P μ) (e + 7) p (nI v)) (e + 1) 5 (nI (sw + 1)))) = cuf e (fun z => P z || tob e h p μ z) (gw_up (cl2 e p (-1) 0 (gw_up μ (e + 7) p (μ (e + 6) f))) (e + 1) 5 (μ (e + 1) 5 + 1)) := by
        rw [← cuf_up (P := P) (by omega), ← cuf_up (P := P) (by omega), cuf_cuf, ← cuf_cl2, v1, s1, nI_1]
        congr 1
        unfold cl2
        rw [up_ne (a := e + 1) (j := 5) (by omega), up_comm (a := e + 1) (j := 5) (by omega), up_comm (a := e + 1) (j := 5) (by omega), up_comm (a := e + 1) (j := 5) (by omega)]
      rw [hc] at G3
      exact ⟨_, G3⟩
    · obtain ⟨k, hk, k1, k2⟩ := G_hand G3
      have : cl2 e p (-1) 0 (cuf e (tob e h p (gw_up (gw_up (cuf e P μ) (e + 7) p (nI v)) (e + 1) 5 (nI (sw + 1)))) (gw_up (gw_up (cuf e P μ) (e + 7) p (nI v)) (e + 1) 5 (nI (sw + 1)))) e 5 = cuf e P μ e 5 := by
        unfold cl2
        rw [up_ne (by omega), up_ne (by omega), up_ne (by omega), cuf_ne (by omega), up_ne (by omega), up_ne (by omega)]
      rw [this] at k1
      have h5 := G_rd hG (i := 15) (c := 0) (j := 5) (by decide +kernel)
      have : s (m + 1) 15 = cuf e P μ e 5 := h5
      rw [k2, ← k1, ← this, h1]
/-- how it ends: the class's side -/
def cgv (e p f : Nat) (v : Int32) (μ : gw_M) : gw_M := gw_up (gw_up (gw_up (gw_up (cput (e + 2) p (nI f) 7 μ) (e + 1) 3 (clr (μ (e + 1) 3) p)) (e + 6) f v) (e + 7) p (-1)) (e + 1) 4 (μ (e + 1) 4 ||| ((1 : Int32) <<< (nI f &&& 31)))
theorem cuf_cgv {p f : Nat} {v : Int32} : cuf e P (cgv e p f v μ) = cgv e p f v (cuf e P μ) := by
  unfold cgv
  rw [cuf_up (by omega), cuf_up (by omega), cuf_up (by omega), cuf_up (by omega), cuf_cput2, cuf_ne (show ¬ (e + 1 = e + 9 ∨ e + 1 = e + 10) by omega), cuf_ne (show ¬ (e + 1 = e + 9 ∨ e + 1 = e + 10) by omega)]
theorem cgv_ne {p f a j : Nat} {v : Int32} (h : a < e + 1 ∨ e + 7 < a) : cgv e p f v μ a j = μ a j := by
  unfold cgv cput
  rw [up_ne (by omega), up_ne (by omega), up_ne (by omega), up_ne (by omega), up_ne (by omega), up_ne (by omega), up_ne (by omega), up_ne (by omega)]
theorem sim_gend (hn : 1000 ≤ n) (hG : G b e m K N L3 L2 (cuf e P μ) s) (hb : b + 1 < 2 ^ 28) (hh : h < 3) (h1 : s (m + 1) 15 = nI h) {p f : Nat} (hp : p < 16) (hf : f ≤ 9) (x : Int32) : ∃ v s', F_X4_give_82 n (e + 1) (nI p) x (nI f) μ = some (x, cgv e p f v μ) ∧ ((F_X11_layEntry n m 2 (nI p) (nI f) 7 s).bind (fun (μ_11 : gw_M) => (if 0 ≤ ((812 : Int32) + nI p) ∧ ((812 : Int32) + nI p).toNatClampNeg < 20813 then (if ¬ (μ_11 (m + 1) ((812 : Int32) + nI p).toNatClampNeg) = (-1) then (if 0 ≤ ((812 : Int32) + nI p) ∧ ((812 : Int32) + nI p).toNatClampNeg < 20813 then F_X11_give_66 n m (nI p) (nI f) ((802 : Int32) + nI f) (μ_11 (m + 1) ((812 : Int32) + nI p).toNatClampNeg) μ_11 else none) else F_X11_give_66 n m (nI p) (nI f) ((802 : Int32) + nI f) 0 μ_11) else none))) = some s' ∧ ∃ L3' L2', G (b + 1) e m K N L3' L2' (cuf e (fun z => P z || tob e h p μ z) (cgv e p f v μ)) s' := by
  obtain ⟨s1, e1, G1⟩ := sim_lay2_put (n := n) hn hG hb (q := p) (f := f) (r := 7) hh h1 hp hf (by decide)
  have ht : tob e h p (cuf e P μ) = tob e h p μ := tob_cg (fun q => cuf_ne (by omega))
  rw [ht, cuf_cuf] at G1
  have hst := G_n1 G1 (gd_t2 p hp).2.2.2.2 (n := 9999) (gd_q2 p hp).2.2.2.2
  have hst2 : gw_up (cput (e + 2) p (nI f) (nI 7) (cuf e (fun z => P z || tob e h p μ z) μ)) (e + 1) 3 (clr (cuf e P μ (e + 1) 3) p) (e + 7) p = μ (e + 7) p := by
    unfold cput
    rw [up_ne (by omega), up_ne (by omega), up_ne (by omega), up_ne (by omega), up_ne (by omega), cuf_ne (by omega)]
  rw [hst2] at hst
  obtain ⟨ch, hch, c1, c2⟩ := G_n G1 (i := 21) (c := 1) (j := 4) (by decide +kernel) (n := 1023) (by decide +kernel)
  obtain ⟨ch', hch', c3⟩ := or_rg hch hf
  have hval : ∃ v, v ≤ 9999 ∧ s1 (m + 1) (812 + p) = μ (e + 7) p ∧ (if μ (e + 7) p = -1 then (0 : Int32) else μ (e + 7) p) = nI v ∧ (if μ (e + 7) p < 0 then (0 : Int32) else μ (e + 7) p) = nI v := by
    rcases hst with ⟨a1, a2⟩ | ⟨v, hv, a1, a2⟩
    · refine ⟨0, by omega, by rw [a1, a2], by rw [if_pos a1]; rfl, by rw [a1, if_pos (by decide)]; rfl⟩
    · refine ⟨v, hv, by rw [a1, a2], ?_, ?_⟩
      · rw [a1, if_neg (by rw [nI_m1 (by omega)]; exact id)]
      · rw [a1, if_neg (nI_pos (by omega))]
  obtain ⟨v, hv, v1, v2, v3⟩ := hval
  have G2 := G_fr G1 (i := 802 + f) (c := 6) (j := f) (gd_fr f (by omega)).1 (v := nI v) (gq_nI (n := 9999) (gd_fr f (by omega)).2 (by decide) hv (by decide)) (by
    have : ∀ f < 10, ∀ k < 9, na k (802 + f) = false := by decide +kernel
    exact this f (by omega))
  have G3 := G_fr G2 (i := 812 + p) (c := 7) (j := p) (gd_t2 p hp).2.2.2.2 (v := -1) (gq_m1 (gd_q2 p hp).2.2.2.2 (by decide)) (by
    have : ∀ p < 16, ∀ k < 9, na k (812 + p) = false := by decide +kernel
    exact this p hp)
  have G4 := G_fr G3 (i := 21) (c := 1) (j := 4) (by decide +kernel) (v := nI ch') (gq_nI (l := 0) (n := 1023) (by decide +kernel) (by decide) hch' (by decide)) (by decide +kernel)
  have hce : cuf e (fun z => P z || tob e h p μ z) (cgv e p f (nI v) μ) = gw_up (gw_up (gw_up (gw_up (cput (e + 2) p (nI f) (nI 7) (cuf e (fun z => P z || tob e h p μ z) μ)) (e + 1) 3 (clr (cuf e P μ (e + 1) 3) p)) (e + 6) f (nI v)) (e + 7) p (-1)) (e + 1) 4 (nI ch') := by
    rw [cuf_cgv]
    unfold cgv
    rw [cuf_ne (show ¬ (e + 1 = e + 9 ∨ e + 1 = e + 10) by omega), cuf_ne (show ¬ (e + 1 = e + 9 ∨ e + 1 = e + 10) by omega)]
    have c4 : μ (e + 1) 4 = nI ch := by
      rw [← c1]
      unfold cput
      rw [up_ne (by omega), up_ne (by omega), up_ne (by omega), up_ne (by omega), up_ne (by omega), cuf_ne (by omega)]
    rw [c4, c3, cuf_ne (show ¬ (e + 1 = e + 9 ∨ e + 1 = e + 10) by omega)]
    rfl
  rw [← hce] at G4
  refine ⟨nI v, _, ?_, ?_, _, _, G4⟩
  · have hcp : 0 ≤ nI p ∧ p < 16 := ⟨nI_pos' (by omega), hp⟩
    have hcf : 0 ≤ nI f ∧ f < 10 := ⟨nI_pos' (by omega), by omega⟩
    have hm : ¬ nI f = -1 := by rw [nI_m1 (by omega)]; exact id
    have hpt : F_X8_put n (e + 1 + 1) (nI p) (nI f) 7 μ = some (cput (e + 2) p (nI f) 7 μ) := c_put hp
    simp only [F_X4_give_82, if_pos hm, hpt, Option.bind_some, gw_let, nI_clamp (show p < 2 ^ 31 by omega), nI_clamp (show f < 2 ^ 31 by omega), if_pos hcp, if_pos hcf]
    have r7 : gw_up (cput (e + 2) p (nI f) 7 μ) (e + 1) 3 (cput (e + 2) p (nI f) 7 μ (e + 1) 3 &&& ((1 : Int32) <<< (nI p &&& 31) ^^^ -1)) (e + 1 + 6) p = μ (e + 7) p := by
      unfold cput
      rw [up_ne (by omega), up_ne (by omega), up_ne (by omega), up_ne (by omega), up_ne (by omega)]
    have hmax : ∀ μ', F_J9_max_7cf53 n (μ (e + 7) p) 0 μ' = some (nI v) := by
      intro μ'
      rw [← v3]
      unfold F_J9_max_7cf53
      split <;> rfl
    rw [r7, hmax, Option.bind_some]
    unfold cgv
    have r3 : cput (e + 2) p (nI f) 7 μ (e + 1) 3 = μ (e + 1) 3 := by
      unfold cput
      rw [up_ne (by omega), up_ne (by omega), up_ne (by omega), up_ne (by omega)]
    have r4 : cput (e + 2) p (nI f) 7 μ (e + 1) 4 = μ (e + 1) 4 := by
      unfold cput
      rw [up_ne (by omega), up_ne (by omega), up_ne (by omega), up_ne (by omega)]
    rw [up_ne (a' := e + 1) (j' := 4) (by omega), up_ne (a' := e + 1) (j' := 4) (by omega), up_ne (a' := e + 1) (j' := 4) (by omega), r3, r4]
    rfl
  · have e1' : F_X11_layEntry n m 2 (nI p) (nI f) 7 s = some s1 := e1
    rw [e1', Option.bind_some]
    simp only [show (812 : Int32) = nI 812 from rfl, show (802 : Int32) = nI 802 from rfl, nI_add, nI_clamp (show 812 + p < 2 ^ 31 by omega), v1]
    rw [if_pos ⟨nI_pos' (by omega), by omega⟩]
    have key : ∀ y : Int32, y = nI v → F_X11_give_66 n m (nI p) (nI f) (nI (802 + f)) y s1 = some (gw_up (gw_up (gw_up s1 (m + 1) (802 + f) (nI v)) (m + 1) (812 + p) (-1)) (m + 1) 21 (nI ch')) := by
      rintro y rfl
      simp only [F_X11_give_66, gw_let, show (812 : Int32) = nI 812 from rfl, nI_add, nI_clamp (show 812 + p < 2 ^ 31 by omega), nI_clamp (show 802 + f < 2 ^ 31 by omega)]
      rw [if_pos ⟨nI_pos' (by omega), by omega⟩, if_pos ⟨nI_pos' (by omega), by omega⟩, up_ne (j' := 21) (by omega), up_ne (j' := 21) (by omega), c2, c3]
    by_cases hm1 : μ (e + 7) p = -1
    · rw [if_neg (not_not_intro hm1)]
      exact key 0 (by rw [← v2, if_pos hm1])
    · rw [if_pos hm1, if_pos ⟨nI_pos' (by omega), by omega⟩]
      exact key _ (by rw [← v2, if_neg hm1])
end GIVE
