/-! ===== joined ===== -/
theorem N5_j0 : ∀ p < 16, ∀ k < 9, (k = 0 ∨ k = 5 ∨ k = 8) ∨ (na k (706 + 2 * p) = false ∧ na k 27 = false) := by decide +kernel
theorem gd_3 {i j : Nat} (h : gd i = some (3, j)) : j < 16 ∧ i = 706 + 2 * j := by
  have h1 := gd_inv h
  have hall : ∀ i < 993, (match gd i with | none => true | some (c, j) => if c = 3 then decide (j < 16 ∧ i = 706 + 2 * j) else true) = true := by decide +kernel
  have := hall i h1.2.2.1
  rw [h] at this
  simpa using this
theorem gd_13 {i : Nat} (h : gd i = some (1, 3)) : i = 27 := by
  have h2 : gd 27 = some (1, 3) := by decide +kernel
  exact gd_inj h h2
def fj (F O x : Int32) : Int32 := if x = O then F else x
section JOIN
variable {b e m n h : Nat} {K N : gw_M} {L3 L2 L : List Nat} {μ s : gw_M}
/-- entries that led to one frame lead to another, what leads there is copied; nothing of it is folded -/
theorem core_join (hG : G b e m K N L3 L2 μ s) {F O : Nat} (hF : F ≤ 9) (hO : O ≤ 9) (hFO : F ≠ O) {Y : Int32} (hY : ∀ i, i < 16 → bt Y i = decide (fj (nI F) (nI O) (μ (e + 3) i) = nI F)) (hfold : ∀ h', h' < 3 → s (m + 1) 15 = nI h' → ∀ p, p < 16 → ∀ q, q < 16 → s (m + 1) (331 + 162 * h' + 2 * p) = nI q → bt Y q = true → s (m + 1) (754 + 2 * p) = -1) {μ' s' : gw_M} (hμ : ∀ a j, μ' a j = if a = e + 3 ∧ j < 16 then fj (nI F) (nI O) (μ a j) else if a = e + 1 ∧ j = 3 then μ (e + 1) 3 ||| Y else μ a j) (hs : ∀ a j, s' a j = if a = m + 1 ∧ 706 ≤ j ∧ j < 738 ∧ j % 2 = 0 then fj (nI F) (nI O) (s a j) else if a = m + 1 ∧ j = 27 then s (m + 1) 27 ||| Y else s a j) : G b e m K N L3 L2 μ' s' := by
  have s27 : s (m + 1) 27 = μ (e + 1) 3 := G_rd hG (i := 27) (c := 1) (j := 3) (by decide +kernel)
  have r706 : ∀ p, p < 16 → s' (m + 1) (706 + 2 * p) = fj (nI F) (nI O) (s (m + 1) (706 + 2 * p)) := fun p hp => by rw [hs, if_pos ⟨rfl, by omega, by omega, by omega⟩]
  have r27 : s' (m + 1) 27 = s (m + 1) 27 ||| Y := by rw [hs, if_neg (by omega), if_pos ⟨rfl, rfl⟩]
  have ro : ∀ i, i ≠ 27 → (i < 706 ∨ 738 ≤ i ∨ i % 2 = 1) → s' (m + 1) i = s (m + 1) i := fun i h1 h2 => by rw [hs, if_neg (by omega), if_neg (by omega)]
  have hm1 : ∀ x : Int32, fj (nI F) (nI O) x = -1 ↔ x = -1 := by
    intro x
    unfold fj
    have h1 : ¬ nI F = -1 := by rw [nI_m1 (by omega)]; exact id
    have h2 : ¬ nI O = -1 := by rw [nI_m1 (by omega)]; exact id
    by_cases c : x = nI O
    · rw [if_pos c, c]
      exact ⟨fun d => absurd d h1, fun d => absurd d h2⟩
    · rw [if_neg c]
  have keep : ∀ k, k < 9 → k ≠ 0 → k ≠ 5 → k ≠ 8 → gq k b e L3 L2 μ' (s' (m + 1)) := by
    intro k hk h0 h5 h8
    refine gq_congr (G_q hG k hk) (fun i hi => ?_) (fun c j hc => ?_)
    · refine ro i ?_ ?_
      · rintro rfl
        rcases N5_j0 0 (by decide) k hk with c | c
        · omega
        · rw [c.2] at hi; cases hi
      · apply Classical.byContradiction
        intro c
        obtain ⟨p, hp⟩ : ∃ p, i = 706 + 2 * p := ⟨(i - 706) / 2, by omega⟩
        subst hp
        rcases N5_j0 p (by omega) k hk with c | c
        · omega
        · rw [c.1] at hi; cases hi
    · rw [hμ, if_neg, if_neg]
      · rintro ⟨c1, c2⟩
        have : c = 1 := by omega
        subst this
        subst c2
        rw [gd_nb 27 1 3 (by decide +kernel) k hk] at hc
        cases hc
      · rintro ⟨c1, c2⟩
        have : c = 3 := by omega
        subst this
        rw [gd_nb _ _ _ (gd_t2 j c2).1 k hk] at hc
        cases hc
  refine G_of hG ⟨Nat.le_refl _, G_b hG⟩ (fun a j ha => by rw [hμ, if_neg (by omega), if_neg (by omega)]) (fun a j ha => by rw [hs, if_neg (fun c => ha ⟨c.1, by omega, by omega⟩), if_neg (fun c => ha ⟨c.1, by omega, by omega⟩)]) (fun i c j hi => ?_) (fun k hk => ?_)
  · by_cases c3 : c = 3
    · subst c3
      obtain ⟨hj, rfl⟩ := gd_3 hi
      refine Or.inr ⟨?_, ?_⟩
      · rw [r706 j hj, hμ, if_pos ⟨rfl, hj⟩, G_rd hG hi]
      · rw [r706 j hj]
        unfold fj
        split
        · exact gq_nI (n := 9) (gd_q2 j hj).1 (by decide) hF (by decide)
        · exact (hG.2.2.2.1 _ _ _ hi).2
    · by_cases c1 : c = 1 ∧ j = 3
      · obtain ⟨rfl, rfl⟩ := c1
        have := gd_13 hi
        subst this
        refine Or.inr ⟨?_, gq_any (by decide +kernel)⟩
        rw [r27, hμ, if_neg (by omega), if_pos ⟨rfl, rfl⟩, s27]
      · refine Or.inl ⟨ro i ?_ ?_, ?_⟩
        · rintro rfl
          rw [show gd 27 = some (1, 3) by decide +kernel] at hi
          cases hi
          exact c1 ⟨rfl, rfl⟩
        · apply Classical.byContradiction
          intro d
          obtain ⟨p, hp⟩ : ∃ p, i = 706 + 2 * p := ⟨(i - 706) / 2, by omega⟩
          subst hp
          rw [(gd_t2 p (by omega)).1] at hi
          cases hi
          exact c3 rfl
        · rw [hμ, if_neg (by omega), if_neg (by omega)]
  · by_cases k0 : k = 0
    · subst k0
      intro p hp
      obtain ⟨t1, t2, t3⟩ := G_q hG 0 (by decide) p hp
      refine ⟨?_, ?_, fun h' t hh' ht' => ?_⟩
      · rw [r706 p hp, ro (707 + 2 * p) (by omega) (by omega), hm1]; exact t1
      · rw [ro _ (by omega) (by omega), ro _ (by omega) (by omega)]; exact t2
      · rw [ro _ (by omega) (by omega), ro _ (by omega) (by omega)]; exact t3 h' t hh' ht'
    · by_cases k5 : k = 5
      · subst k5
        obtain ⟨⟨l1, l2, l3, l4, l5⟩, o⟩ := G_q hG 5 (by decide)
        refine ⟨⟨l1, fun p => ?_, l3, by rw [ro _ (by omega) (by omega)]; exact l4, fun k p hk => ?_⟩, gq_O_congr o (by rw [hμ, if_neg (by omega), if_neg (by omega)]) (fun p => by rw [hμ, if_neg (by omega), if_neg (by omega)])⟩
        · rw [l2 p]
          constructor
          · rintro ⟨q1, q2⟩
            exact ⟨q1, by rw [r706 p q1]; exact fun c => q2 ((hm1 _).mp c)⟩
          · rintro ⟨q1, q2⟩
            exact ⟨q1, fun c => q2 (by rw [r706 p q1]; exact (hm1 _).mpr c)⟩
        · have : k < L2.length := (List.getElem?_eq_some_iff.mp hk).1
          rw [ro _ (by omega) (by omega)]
          exact l5 k p hk
      · by_cases k8 : k = 8
        · subst k8
          obtain ⟨f1, f2⟩ := G_q hG 8 (by decide)
          refine ⟨fun h' hh' hn p hp hf => ?_, by rw [ro 4 (by omega) (by omega)]; exact f2⟩
          rw [ro 15 (by omega) (by omega)] at hn
          rw [ro _ (by omega) (by omega)] at hf
          obtain ⟨q, hq, a1, a2, a3⟩ := f1 h' hh' hn p hp hf
          have hyq : bt Y q = false := by
            cases hc : bt Y q
            · rfl
            · exact absurd (hfold h' hh' hn p hp q hq a1 hc) hf
          have hnF : ¬ fj (nI F) (nI O) (μ (e + 3) q) = nI F := by
            have := hY q hq
            rw [hyq] at this
            exact of_decide_eq_false this.symm
          have hsame : fj (nI F) (nI O) (s (m + 1) (706 + 2 * q)) = s (m + 1) (706 + 2 * q) := by
            rw [G_rd hG (gd_t2 q hq).1]
            unfold fj at hnF ⊢
            by_cases c : μ (e + 3) q = nI O
            · rw [if_pos c] at hnF
              exact absurd rfl hnF
            · rw [if_neg c]
          refine ⟨q, hq, by rw [ro _ (by omega) (by omega)]; exact a1, by rw [r706 q hq, hsame, ro _ (by omega) (by omega)]; exact a2, ?_⟩
          rw [ro _ (by omega) (by omega), ro (332 + 162 * h' + 2 * p) (by omega) (by omega), a3]
          unfold gr_2
          have hb : (s (m + 1) 27 ||| Y).toBitVec.getLsbD q = (s (m + 1) 27).toBitVec.getLsbD q := by
            have := b_or (s (m + 1) 27) Y q
            rw [hyq, Bool.or_false] at this
            exact this
          rw [r27, hb, ro (707 + 2 * q) (by omega) (by omega)]
        · exact keep k hk k0 k5 k8
theorem c_merge5 {F O : Nat} (hF : F ≤ 9) (hO : O ≤ 9) (hFO : F ≠ O) : ∀ (d k f : Nat) (x : Int32) (μ : gw_M), k + d = 16 → d < f → ∃ y μ1, F_X4_merge_5 n (e + 1) f (nI F) (nI O) x (nI k) μ = some (y, gw_up μ1 (e + 1) 3 (μ1 (e + 1) 3 ||| y)) ∧ (∀ a j, μ1 a j = if a = e + 3 ∧ k ≤ j ∧ j < 16 then fj (nI F) (nI O) (μ a j) else μ a j) ∧ ∀ i, i < 32 → bt y i = (bt x i || (decide (k ≤ i) && (decide (i < 16) && decide (fj (nI F) (nI O) (μ (e + 3) i) = nI F)))) := by
  intro d
  induction d with
  | zero =>
    intro k f x μ hk hf
    obtain ⟨f, rfl⟩ : ∃ z, f = z + 1 := ⟨f - 1, by omega⟩
    have : k = 16 := by omega
    subst this
    rw [F_X4_merge_5, if_pos (by decide)]
    refine ⟨x, μ, rfl, fun a j => by rw [if_neg (by omega)], fun i hi => ?_⟩
    by_cases h1 : 16 ≤ i
    · simp [Nat.not_lt.mpr h1]
    · simp [h1]
  | succ d ih =>
    intro k f x μ hk hf
    obtain ⟨f, rfl⟩ : ∃ z, f = z + 1 := ⟨f - 1, by omega⟩
    have hc : 0 ≤ nI k ∧ k < 16 := ⟨nI_pos' (by omega), by omega⟩
    rw [F_X4_merge_5, if_neg (by rw [show (16 : Int32) = nI 16 from rfl]; exact nI_ge (by omega) (by omega))]
    simp only [nI_clamp (show k < 2 ^ 31 by omega), if_pos hc, F_X4_merge_37, F_X4_merge_58, gw_let, nI_1]
    have step : ∀ (μ2 : gw_M), (∀ a j, μ2 a j = if a = e + 3 ∧ j = k then fj (nI F) (nI O) (μ a j) else μ a j) → ∃ y μ1, (if ¬ μ2 (e + 1 + 2) k = nI F then F_X4_merge_5 n (e + 1) f (nI F) (nI O) x (nI (k + 1)) μ2 else F_X4_merge_5 n (e + 1) f (nI F) (nI O) (x ||| ((1 : Int32) <<< (nI k &&& 31))) (nI (k + 1)) μ2) = some (y, gw_up μ1 (e + 1) 3 (μ1 (e + 1) 3 ||| y)) ∧ (∀ a j, μ1 a j = if a = e + 3 ∧ k ≤ j ∧ j < 16 then fj (nI F) (nI O) (μ a j) else μ a j) ∧ ∀ i, i < 32 → bt y i = (bt x i || (decide (k ≤ i) && (decide (i < 16) && decide (fj (nI F) (nI O) (μ (e + 3) i) = nI F)))) := by
      intro μ2 h2
      have hk2 : μ2 (e + 1 + 2) k = fj (nI F) (nI O) (μ (e + 3) k) := by
        show μ2 (e + 3) k = _
        rw [h2, if_pos ⟨rfl, rfl⟩]
      have fr : ∀ (μ1 : gw_M), (∀ a j, μ1 a j = if a = e + 3 ∧ k + 1 ≤ j ∧ j < 16 then fj (nI F) (nI O) (μ2 a j) else μ2 a j) → ∀ a j, μ1 a j = if a = e + 3 ∧ k ≤ j ∧ j < 16 then fj (nI F) (nI O) (μ a j) else μ a j := by
        intro μ1 h1 a j
        rw [h1 a j]
        by_cases c : a = e + 3 ∧ k + 1 ≤ j ∧ j < 16
        · rw [if_pos c, if_pos (by omega), h2, if_neg (by omega)]
        · rw [if_neg c, h2]
          by_cases c2 : a = e + 3 ∧ j = k
          · rw [if_pos c2, if_pos (by omega)]
          · rw [if_neg c2, if_neg (by omega)]
      have bits : ∀ i, i < 32 → i ≠ k → decide (fj (nI F) (nI O) (μ2 (e + 3) i) = nI F) = decide (fj (nI F) (nI O) (μ (e + 3) i) = nI F) := by
        intro i hi hik
        rw [h2, if_neg (by omega)]
      by_cases hz : μ2 (e + 1 + 2) k = nI F
      · rw [if_neg (not_not_intro hz)]
        obtain ⟨y, μ1, e1, e2, e3⟩ := ih (k + 1) f (x ||| ((1 : Int32) <<< (nI k &&& 31))) μ2 (by omega) (by omega)
        refine ⟨y, μ1, e1, fr μ1 e2, fun i hi => ?_⟩
        rw [e3 i hi, b_set x (by omega) hi]
        by_cases hik : i = k
        · subst hik
          rw [hk2] at hz
          simp [hz, show i < 16 by omega]
        · rw [bits i hi hik]
          simp only [hik, decide_false, Bool.or_false]
          congr 2
          rw [decide_eq_decide]
          omega
      · rw [if_pos hz]
        obtain ⟨y, μ1, e1, e2, e3⟩ := ih (k + 1) f x μ2 (by omega) (by omega)
        refine ⟨y, μ1, e1, fr μ1 e2, fun i hi => ?_⟩
        rw [e3 i hi]
        by_cases hik : i = k
        · subst hik
          rw [hk2] at hz
          have hii : ¬ i + 1 ≤ i := by omega
          simp [hz, hii]
        · rw [bits i hi hik]
          congr 2
          rw [decide_eq_decide]
          omega
    by_cases hko : μ (e + 1 + 2) k = nI O
    · rw [if_neg (not_not_intro hko)]
      exact step (gw_up μ (e + 1 + 2) k (nI F)) (fun a j => by
        rw [up_at]
        by_cases c : a = e + 3 ∧ j = k
        · rw [if_pos (by omega), if_pos c, c.1, c.2]
          unfold fj
          rw [if_pos hko]
        · rw [if_neg (by omega), if_neg c])
    · rw [if_pos hko]
      exact step μ (fun a j => by
        by_cases c : a = e + 3 ∧ j = k
        · rw [if_pos c, c.1, c.2]
          unfold fj
          rw [if_neg hko]
        · rw [if_neg c])
theorem m_jn2 {F O : Nat} : ∀ (d k f : Nat) (s : gw_M), k + d = 16 → d < f → ∃ s1, F_X11_joinNow_2 n m f (nI F) (nI O) (nI k) s = (F_X11_leadTo n m (nI F) s1).bind (fun (r_2 : Int32) => gw_let (gw_up s1 (m + 1) 27 ((s1 (m + 1) 27) ||| r_2)) (fun (μ_6 : gw_M) => F_X11_joinNow_53 n m n (nI F) 0 μ_6)) ∧ ∀ a j, s1 a j = if a = m + 1 ∧ 706 + 2 * k ≤ j ∧ j < 738 ∧ j % 2 = 0 then fj (nI F) (nI O) (s a j) else s a j := by
  intro d
  induction d with
  | zero =>
    intro k f s hk hf
    obtain ⟨f, rfl⟩ : ∃ z, f = z + 1 := ⟨f - 1, by omega⟩
    have : k = 16 := by omega
    subst this
    rw [F_X11_joinNow_2, if_pos (by decide)]
    exact ⟨s, rfl, fun a j => by rw [if_neg (by omega)]⟩
  | succ d ih =>
    intro k f s hk hf
    obtain ⟨f, rfl⟩ : ∃ z, f = z + 1 := ⟨f - 1, by omega⟩
    rw [F_X11_joinNow_2, if_neg (by rw [show (16 : Int32) = nI 16 from rfl]; exact nI_ge (by omega) (by omega))]
    simp only [m_to2 (n := n) (m := m) (show k < 16 by omega), m_entry2 (n := n) (m := m) (show k < 16 by omega), Option.bind_some, F_X11_joinNow_30, gw_let, nI_1, nI_clamp (show 706 + 2 * k < 2 ^ 31 by omega)]
    by_cases hko : s (m + 1) (706 + 2 * k) = nI O
    · rw [if_neg (not_not_intro hko), if_pos ⟨nI_pos' (by omega), by omega⟩]
      obtain ⟨s1, e1, e2⟩ := ih (k + 1) f (gw_up s (m + 1) (706 + 2 * k) (nI F)) (by omega) (by omega)
      refine ⟨s1, e1, fun a j => ?_⟩
      rw [e2 a j]
      by_cases c : a = m + 1 ∧ 706 + 2 * (k + 1) ≤ j ∧ j < 738 ∧ j % 2 = 0
      · rw [if_pos c, if_pos (by omega), up_ne (by omega)]
      · rw [if_neg c]
        by_cases c2 : a = m + 1 ∧ j = 706 + 2 * k
        · rw [up_eq c2, if_pos (by omega), c2.1, c2.2]
          unfold fj
          rw [if_pos hko]
        · rw [up_ne c2, if_neg (by omega)]
    · rw [if_pos hko]
      obtain ⟨s1, e1, e2⟩ := ih (k + 1) f s (by omega) (by omega)
      refine ⟨s1, e1, fun a j => ?_⟩
      rw [e2 a j]
      by_cases c : a = m + 1 ∧ 706 + 2 * (k + 1) ≤ j ∧ j < 738 ∧ j % 2 = 0
      · rw [if_pos c, if_pos (by omega)]
      · rw [if_neg c]
        by_cases c2 : a = m + 1 ∧ j = 706 + 2 * k
        · rw [if_pos (by omega), c2.1, c2.2]
          unfold fj
          rw [if_neg hko]
        · rw [if_neg (by omega)]
def jP (F h k d : Nat) (ν : Nat → Int32) (z : Nat) : Bool := (List.range' k d).any (fun q => decide (ν (706 + 2 * q) = nI F) && decide (ν (331 + 162 * h + 2 * z) = nI q))
theorem m_jn53 (hn : 1000 ≤ n) (hh : h < 3) {F : Nat} : ∀ (d k f : Nat) (s : gw_M) (L : List Nat), k + d = 16 → d < f → gq_T (s (m + 1)) → gq_L (s (m + 1)) 754 786 23 L → s (m + 1) 15 = nI h → ∃ s', F_X11_joinNow_53 n m f (nI F) (nI k) s = some s' ∧ m_uf m (jP F h k d (s (m + 1))) L s s' := by
  intro d
  induction d with
  | zero =>
    intro k f s L hk hf hT hL h1
    obtain ⟨f, rfl⟩ : ∃ z, f = z + 1 := ⟨f - 1, by omega⟩
    have : k = 16 := by omega
    subst this
    rw [F_X11_joinNow_53, if_pos (by decide)]
    exact ⟨s, rfl, uf_congr (uf_refl (lst_of hL)) (fun p hp => rfl) (fun z hz => ((hL.2.1 z).mp hz).1)⟩
  | succ d ih =>
    intro k f s L hk hf hT hL h1
    obtain ⟨f, rfl⟩ : ∃ z, f = z + 1 := ⟨f - 1, by omega⟩
    rw [F_X11_joinNow_53, if_neg (by rw [show (16 : Int32) = nI 16 from rfl]; exact nI_ge (by omega) (by omega))]
    simp only [m_to2 (n := n) (m := m) (show k < 16 by omega), Option.bind_some, F_X11_joinNow_74, gw_let, nI_1]
    by_cases hkF : s (m + 1) (706 + 2 * k) = nI F
    · rw [if_neg (not_not_intro hkF)]
      obtain ⟨s1, e1, u1⟩ := m_unfoldTo (n := n) hn hh (nI k) hT hL h1
      obtain ⟨hT1, hL1⟩ := uf_L hT hL u1
      obtain ⟨s2, e2, u2⟩ := ih (k + 1) f s1 _ (by omega) (by omega) hT1 hL1 (by rw [u1.1 _ _ (by omega)]; exact h1)
      rw [e1, Option.bind_some]
      refine ⟨s2, e2, uf_congr (uf_trans u1 u2) (fun z hz => ?_) (fun z hz => ((hL.2.1 z).mp hz).1)⟩
      have hq : ∀ q, q < 16 → s1 (m + 1) (706 + 2 * q) = s (m + 1) (706 + 2 * q) := fun q hq => u1.1 _ _ (by omega)
      have hz2 : s1 (m + 1) (331 + 162 * h + 2 * z) = s (m + 1) (331 + 162 * h + 2 * z) := u1.1 _ _ (by omega)
      unfold jP
      rw [List.range'_succ, List.any_cons, hkF, decide_eq_true rfl, Bool.true_and, hz2]
      congr 1
      rw [Bool.eq_iff_iff, List.any_eq_true, List.any_eq_true]
      constructor
      · rintro ⟨q, q1, q2⟩
        have := List.mem_range'_1.mp q1
        exact ⟨q, q1, by rw [← hq q (by omega)]; exact q2⟩
      · rintro ⟨q, q1, q2⟩
        have := List.mem_range'_1.mp q1
        exact ⟨q, q1, by rw [hq q (by omega)]; exact q2⟩
    · rw [if_pos hkF]
      obtain ⟨s2, e2, u2⟩ := ih (k + 1) f s L (by omega) (by omega) hT hL h1
      refine ⟨s2, e2, uf_congr u2 (fun z hz => ?_) (fun z hz => ((hL.2.1 z).mp hz).1)⟩
      unfold jP
      rw [List.range'_succ, List.any_cons, decide_eq_false hkF, Bool.false_and, Bool.false_or]
theorem jP_true {F h : Nat} {ν : Nat → Int32} {z : Nat} : jP F h 0 16 ν z = true ↔ ∃ q, q < 16 ∧ ν (706 + 2 * q) = nI F ∧ ν (331 + 162 * h + 2 * z) = nI q := by
  unfold jP
  rw [List.any_eq_true]
  constructor
  · rintro ⟨q, q1, q2⟩
    have := List.mem_range'_1.mp q1
    simp only [Bool.and_eq_true, decide_eq_true_eq] at q2
    exact ⟨q, by omega, q2⟩
  · rintro ⟨q, q1, q2⟩
    exact ⟨q, List.mem_range'_1.mpr (by omega), by simp only [Bool.and_eq_true, decide_eq_true_eq]; exact q2⟩
/-- joined, once -/
theorem sim_join1 (hn : 1000 ≤ n) (hG : G b e m K N L3 L2 μ s) {F O : Nat} (hF : F ≤ 9) (hO : O ≤ 9) (hFO : F ≠ O) : ∃ y μ1 μ' s', F_X4_merge n (e + 1) (nI F) (nI O) μ = some (y, μ1) ∧ F_X3_unfold n e y μ1 = some μ' ∧ F_X11_joinNow n m (nI F) (nI O) s = some s' ∧ Gs b e m K N μ' s' ∧ (∀ j, j < 16 → μ' (e + 3) j = fj (nI F) (nI O) (μ (e + 3) j)) ∧ (∀ j, μ' (e + 6) j = μ (e + 6) j) ∧ ∀ j, μ' e j = μ e j := by
  obtain ⟨h, hh, h5, h15⟩ := G_hand hG
  have hT := G_q hG 0 (by decide)
  have hL := (G_q hG 4 (by decide)).1
  obtain ⟨y, μ1, c1, c2, c3⟩ := c_merge5 (n := n) (e := e) hF hO hFO 16 0 n 0 μ rfl (by omega)
  obtain ⟨s1, m1, m2⟩ := m_jn2 (n := n) (m := m) (F := F) (O := O) 16 0 n s rfl (by omega)
  have hy : ∀ i, i < 16 → bt y i = decide (fj (nI F) (nI O) (μ (e + 3) i) = nI F) := by
    intro i hi
    rw [c3 i (by omega), b_0]
    simp [hi]
  obtain ⟨y2, l1, l2⟩ := m_leadTo (n := n) (m := m) (s := s1) hn (nI F)
  have hyy : y2 = y := by
    apply b_ext
    intro i hi
    rw [l2 i hi, c3 i hi, b_0]
    by_cases hi16 : i < 16
    · rw [m2, if_pos ⟨rfl, by omega, by omega, by omega⟩, G_rd hG (gd_t2 i hi16).1]
      simp [hi16]
    · simp [hi16]
  subst hyy
  have s0d : ∃ s0, s0 = gw_up s1 (m + 1) 27 (s1 (m + 1) 27 ||| y2) := ⟨_, rfl⟩
  obtain ⟨s0, hs0⟩ := s0d
  have q0 : ∀ a j, s0 a j = if a = m + 1 ∧ 706 ≤ j ∧ j < 738 ∧ j % 2 = 0 then fj (nI F) (nI O) (s a j) else if a = m + 1 ∧ j = 27 then s (m + 1) 27 ||| y2 else s a j := by
    intro a j
    rw [hs0, up_at]
    by_cases c : a = m + 1 ∧ j = 27
    · rw [if_pos c, if_neg (by omega), if_pos c, m2, if_neg (by omega)]
    · rw [if_neg c, if_neg c, m2]
  have ro : ∀ i, i ≠ 27 → (i < 706 ∨ 738 ≤ i ∨ i % 2 = 1) → s0 (m + 1) i = s (m + 1) i := fun i h1 h2 => by rw [q0, if_neg (by omega), if_neg (by omega)]
  have r706 : ∀ p, p < 16 → s0 (m + 1) (706 + 2 * p) = fj (nI F) (nI O) (s (m + 1) (706 + 2 * p)) := fun p hp => by rw [q0, if_pos ⟨rfl, by omega, by omega, by omega⟩]
  have hm1 : ∀ x : Int32, fj (nI F) (nI O) x = -1 → x = -1 := by
    intro x
    unfold fj
    have h1 : ¬ nI F = -1 := by rw [nI_m1 (by omega)]; exact id
    by_cases c : x = nI O
    · rw [if_pos c]
      exact fun d => absurd d h1
    · rw [if_neg c]
      exact id
  have hT0 : gq_T (s0 (m + 1)) := by
    intro p hp
    obtain ⟨t1, t2, t3⟩ := hT p hp
    refine ⟨?_, ?_, fun h' t hh' ht' => ?_⟩
    · rw [r706 p hp, ro (707 + 2 * p) (by omega) (by omega)]
      exact fun c => t1 (hm1 _ c)
    · rw [ro _ (by omega) (by omega), ro _ (by omega) (by omega)]; exact t2
    · rw [ro _ (by omega) (by omega), ro _ (by omega) (by omega)]; exact t3 h' t hh' ht'
  have hL0 : gq_L (s0 (m + 1)) 754 786 23 L3 := gq_L_congr hL (fun p hp => ro _ (by omega) (by omega)) (ro _ (by omega) (by omega)) (fun k hk => ro _ (by omega) (by omega))
  obtain ⟨s2, e2, u2⟩ := m_jn53 (n := n) hn hh (F := F) 16 0 n s0 L3 rfl (by omega) hT0 hL0 (by rw [ro _ (by omega) (by omega)]; exact h15)
  obtain ⟨s3, u3, hs2⟩ := uf_pull u2 (s := s) (fun j hj => ro j (by omega) (by omega))
  -- the class unfolds the same
  have μ0d : ∃ μ0, μ0 = gw_up μ1 (e + 1) 3 (μ1 (e + 1) 3 ||| y2) := ⟨_, rfl⟩
  obtain ⟨μ0, hμ0⟩ := μ0d
  rw [← hμ0] at c1
  have w0 : ∀ a j, μ0 a j = if a = e + 3 ∧ j < 16 then fj (nI F) (nI O) (μ a j) else if a = e + 1 ∧ j = 3 then μ (e + 1) 3 ||| y2 else μ a j := by
    intro a j
    rw [hμ0, up_at]
    by_cases c : a = e + 1 ∧ j = 3
    · rw [if_pos c, if_neg (by omega), if_pos c, c2, if_neg (by omega)]
    · rw [if_neg c, if_neg c, c2]
      by_cases d : a = e + 3 ∧ j < 16
      · rw [if_pos (by omega), if_pos d]
      · rw [if_neg (by omega), if_neg d]
  have h50 : μ0 e 5 = nI h := by rw [w0, if_neg (by omega), if_neg (by omega)]; exact h5
  have t0 : ∀ p, μ0 (e + 49 + 15 * h) p = μ (e + 49 + 15 * h) p := fun p => by rw [w0, if_neg (by omega), if_neg (by omega)]
  have ht := G_tOK hG hh
  have cu := c_unf (n := n) hn hh h50 (tOK_cg ht t0) y2
  rw [Pm_cg t0] at cu
  have st : ∀ z, z < 16 → s (m + 1) (331 + 162 * h + 2 * z) = μ (e + 49 + 15 * h) z := by
    intro z hz
    have := G_rd hG (gd_e hh (t := 1) (by decide) hz).1
    rw [show 299 + 162 * h + 32 * 1 + 2 * z = 331 + 162 * h + 2 * z by omega, show e + (45 + 15 * h + 4 * 1) = e + 49 + 15 * h by omega] at this
    exact this
  have hP : ∀ z, z < 16 → jP F h 0 16 (s0 (m + 1)) z = Pm e h y2 μ z := by
    intro z hz
    rw [Bool.eq_iff_iff, jP_true]
    unfold Pm
    rw [Bool.and_eq_true, decide_eq_true_eq, ro (331 + 162 * h + 2 * z) (by omega) (by omega), st z hz]
    constructor
    · rintro ⟨q, hq, q1, q2⟩
      rw [q2, nI_clamp (by omega)]
      refine ⟨show ¬ nI q = -1 by rw [nI_m1 (by omega)]; exact id, ?_⟩
      rw [r706 q hq, G_rd hG (gd_t2 q hq).1] at q1
      rw [hy q hq]
      exact decide_eq_true q1
    · rintro ⟨q1, q2⟩
      rcases ht z hz with c | ⟨q, hq, c⟩
      · exact absurd c q1
      · rw [c, nI_clamp (by omega), hy q (by omega)] at q2
        exact ⟨q, by omega, by rw [r706 q (by omega), G_rd hG (gd_t2 q (by omega)).1]; exact of_decide_eq_true q2, c⟩
  have hlt : ∀ z ∈ L3, z < 16 := fun z hz => ((hL.2.1 z).mp hz).1
  have G1 := sim_uf hG (uf_congr u3 hP hlt) (cuf_is e (Pm e h y2 μ) μ)
  refine ⟨y2, μ0, cuf e (Pm e h y2 μ) μ0, s2, c1, cu, ?_, ⟨_, _, core_join G1 hF hO hFO (Y := y2) ?_ ?_ (μ' := cuf e (Pm e h y2 μ) μ0) (s' := s2) ?_ ?_⟩, fun j hj => ?_, fun j => ?_, fun j => ?_⟩
  · rw [F_X11_joinNow, show (0 : Int32) = nI 0 from rfl, m1, l1, Option.bind_some]
    simp only [gw_let]
    rw [← hs0]
    exact e2
  · intro i hi
    rw [cuf_ne (by omega)]
    exact hy i hi
  · intro h' hh' hn' p hp q hq a1 a2
    rw [u3.1 _ _ (by omega)] at hn' a1
    have := nI_inj (by omega) (by omega) (h15.symm.trans hn')
    subst this
    rw [(u3.2.1 p hp).1, if_pos]
    rw [hP p hp]
    unfold Pm
    rw [← st p hp, a1, nI_clamp (by omega), a2]
    have hne : nI q ≠ -1 := by
      intro c
      rw [nI_m1 (by omega)] at c
      exact c
    simp [hne]
  · intro a j
    by_cases c : a = e + 9 ∨ a = e + 10
    · rw [if_neg (show ¬ (a = e + 3 ∧ j < 16) by omega), if_neg (show ¬ (a = e + 1 ∧ j = 3) by omega)]
      unfold cuf
      rw [w0 a j, if_neg (show ¬ (a = e + 3 ∧ j < 16) by omega), if_neg (show ¬ (a = e + 1 ∧ j = 3) by omega)]
    · rw [cuf_ne c, w0, cuf_ne c, cuf_ne (by omega)]
  · intro a j
    rw [hs2]
    by_cases c : a = m + 1 ∧ (j = 23 ∨ (754 ≤ j ∧ j < 802))
    · rw [if_neg (by omega), if_neg (by omega)]
      exact if_pos c
    · show (if a = m + 1 ∧ (j = 23 ∨ (754 ≤ j ∧ j < 802)) then s3 a j else s0 a j) = _
      rw [if_neg c, q0, u3.1 _ _ c, u3.1 _ _ (by omega)]
  · rw [cuf_ne (by omega), w0, if_pos ⟨rfl, hj⟩]
  · rw [cuf_ne (by omega), w0, if_neg (by omega), if_neg (by omega)]
  · rw [cuf_ne (by omega), w0, if_neg (by omega), if_neg (by omega)]
end JOIN
