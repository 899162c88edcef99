/-! ===== what is folded is dropped ===== -/
def gd_n (i : Nat) : Bool := i = 22 || i = 23 || i = 24 || i = 25 || (738 ≤ i && i < 754) || (786 ≤ i && i < 802) || (837 ≤ i) || (65 ≤ i && i < 220) || (227 ≤ i && i < 299) || (366 ≤ i && i < 382) || (389 ≤ i && i < 461) || (528 ≤ i && i < 544) || (551 ≤ i && i < 623) || (690 ≤ i && i < 706)
theorem gd_nd {i c j : Nat} (h : gd i = some (c, j)) : gd_n i = false := by
  have h2 := gd_inv h
  have hall : ∀ i < 993, (match gd i with | none => true | some _ => !(gd_n i)) = true := by decide +kernel
  have := hall i h2.2.2.1
  rw [h] at this
  simpa using this
theorem gq_keep {k b b' e : Nat} {L3 L2 L3' L2' : List Nat} {μ μ' : gw_M} {ν ν' : Nat → Int32} (h : gq k b e L3 L2 μ ν) (hb : b ≤ b') (h3 : k = 4 ∨ k = 8 → L3' = L3) (h2 : k = 5 → L2' = L2) (hν : ∀ i, na k i = true → ν' i = ν i) (hμ : ∀ c s, nb k c s = true → μ' (e + c) s = μ (e + c) s) : gq k b' e L3' L2' μ' ν' := by
  have h4 := gq_mono (gq_congr h hν hμ) hb
  match k, h3, h2, h4 with
  | 0, _, _, h4 => exact h4
  | 1, _, _, h4 => exact h4
  | 2, _, _, h4 => exact h4
  | 3, _, _, h4 => exact h4
  | 4, h3, _, h4 => rw [h3 (Or.inl rfl)]; exact h4
  | 5, _, h2, h4 => rw [h2 rfl]; exact h4
  | 6, _, _, h4 => exact h4
  | 7, _, _, h4 => exact h4
  | 8, h3, _, h4 => rw [h3 (Or.inr rfl)]; exact h4
  | n + 9, _, _, _ => exact trivial
theorem G_of {b b' e m : Nat} {K N : gw_M} {L3 L2 L3' L2' : List Nat} {μ s μ' s' : gw_M} (h : G b e m K N L3 L2 μ s) (hb : b ≤ b' ∧ b' < 2 ^ 28) (hK : ∀ a j, a < e ∨ e + 82 ≤ a → μ' a j = μ a j) (hN : ∀ a j, ¬ (a = m + 1 ∧ 2 ≤ j ∧ j < 993) → s' a j = s a j) (hd : ∀ i c j, gd i = some (c, j) → (s' (m + 1) i = s (m + 1) i ∧ μ' (e + c) j = μ (e + c) j) ∨ (s' (m + 1) i = μ' (e + c) j ∧ gq_r b' i (s' (m + 1) i))) (hk : ∀ k, k < 9 → gq k b' e L3' L2' μ' (s' (m + 1))) : G b' e m K N L3' L2' μ' s' :=
  ⟨fun a j ha => (hK a j ha).trans (h.1 a j ha), fun a j ha => (hN a j ha).trans (h.2.1 a j ha), gR_of h.2.2 hb hd hk⟩
def m_uf (m : Nat) (P : Nat → Bool) (L : List Nat) (s s' : gw_M) : Prop := (∀ a j, ¬ (a = m + 1 ∧ (j = 23 ∨ (754 ≤ j ∧ j < 802))) → s' a j = s a j) ∧ (∀ p, p < 16 → s' (m + 1) (754 + 2 * p) = (if P p then -1 else s (m + 1) (754 + 2 * p)) ∧ s' (m + 1) (755 + 2 * p) = (if P p then 0 else s (m + 1) (755 + 2 * p))) ∧ lst (s' (m + 1)) 786 23 (L.filter (fun p => !P p))
def c_uf (e : Nat) (P : Nat → Bool) (μ μ' : gw_M) : Prop := (∀ a j, ¬ ((a = e + 9 ∨ a = e + 10) ∧ j < 16) → μ' a j = μ a j) ∧ ∀ p, p < 16 → μ' (e + 9) p = (if P p then -1 else μ (e + 9) p) ∧ μ' (e + 10) p = (if P p then 0 else μ (e + 10) p)
section FOLD
variable {b e m n : Nat} {K N : gw_M} {L3 L2 L : List Nat} {μ s : gw_M}
theorem sim_uf (h : G b e m K N L3 L2 μ s) {P : Nat → Bool} {μ' s' : gw_M} (hm : m_uf m P L3 s s') (hc : c_uf e P μ μ') : G b e m K N (L3.filter (fun p => !P p)) L2 μ' s' := by
  obtain ⟨m1, m2, m3⟩ := hm
  obtain ⟨c1, c2⟩ := hc
  have hν : ∀ i, ¬ (i = 23 ∨ (754 ≤ i ∧ i < 802)) → s' (m + 1) i = s (m + 1) i := fun i hi => m1 _ _ (fun c => hi c.2)
  have hμ : ∀ c j, c ≠ 9 → c ≠ 10 → μ' (e + c) j = μ (e + c) j := fun c j h9 h10 => c1 _ _ (by omega)
  have hnb : ∀ k, k < 9 → ∀ c j, nb k c j = true → μ' (e + c) j = μ (e + c) j := by
    intro k hk c j hc
    apply hμ
    · rintro rfl
      match k, hk, hc with
      | 0, _, hc => simp [nb] at hc
      | 1, _, hc => simp [nb] at hc
      | 2, _, hc => simp [nb] at hc
      | 3, _, hc => simp [nb] at hc
      | 4, _, hc => simp [nb] at hc
      | 5, _, hc => simp [nb] at hc
      | 6, _, hc => simp [nb] at hc
      | 7, _, hc => simp [nb] at hc
      | 8, _, hc => simp [nb] at hc
    · rintro rfl
      match k, hk, hc with
      | 0, _, hc => simp [nb] at hc
      | 1, _, hc => simp [nb] at hc
      | 2, _, hc => simp [nb] at hc
      | 3, _, hc => simp [nb] at hc
      | 4, _, hc => simp [nb] at hc
      | 5, _, hc => simp [nb] at hc
      | 6, _, hc => simp [nb] at hc
      | 7, _, hc => simp [nb] at hc
      | 8, _, hc => simp [nb] at hc
  have keep : ∀ k, k < 9 → (∀ i, na k i = true → ¬ (i = 23 ∨ (754 ≤ i ∧ i < 802))) → (k ≠ 4 ∧ k ≠ 8) → gq k b e (L3.filter (fun p => !P p)) L2 μ' (s' (m + 1)) := fun k hk hi h48 => gq_keep (G_q h k hk) (Nat.le_refl _) (fun c => absurd c (by omega)) (fun _ => rfl) (fun i hi2 => hν i (hi i hi2)) (hnb k hk)
  refine G_of h ⟨Nat.le_refl _, G_b h⟩ (fun a j ha => c1 a j (by omega)) (fun a j ha => m1 a j (fun c => ha ⟨c.1, by omega, by omega⟩)) (fun i c j hi => ?_) (fun k hk => ?_)
  · by_cases h9 : c = 9
    · subst h9
      have hj : j < 16 ∧ i = 754 + 2 * j := by
        have h1 := gd_inv hi
        have hall : ∀ i < 993, (match gd i with | none => true | some (c, j) => if c = 9 then decide (j < 16 ∧ i = 754 + 2 * j) else true) = true := by decide +kernel
        have := hall i h1.2.2.1
        rw [hi] at this
        simpa using this
      obtain ⟨hj, rfl⟩ := hj
      rw [(m2 j hj).1, (c2 j hj).1]
      by_cases hP : P j = true
      · rw [if_pos hP, if_pos hP]
        exact Or.inr ⟨rfl, gq_m1 (gd_q2 j hj).2.2.1 (by decide)⟩
      · rw [if_neg hP, if_neg hP]
        exact Or.inl ⟨rfl, rfl⟩
    · by_cases h10 : c = 10
      · subst h10
        have hj : j < 16 ∧ i = 755 + 2 * j := by
          have h1 := gd_inv hi
          have hall : ∀ i < 993, (match gd i with | none => true | some (c, j) => if c = 10 then decide (j < 16 ∧ i = 755 + 2 * j) else true) = true := by decide +kernel
          have := hall i h1.2.2.1
          rw [hi] at this
          simpa using this
        obtain ⟨hj, rfl⟩ := hj
        rw [(m2 j hj).2, (c2 j hj).2]
        by_cases hP : P j = true
        · rw [if_pos hP, if_pos hP]
          exact Or.inr ⟨rfl, gq_nI (k := 0) (n := 7) (gd_q2 j hj).2.2.2.1 (by decide) (by decide) (by decide)⟩
        · rw [if_neg hP, if_neg hP]
          exact Or.inl ⟨rfl, rfl⟩
      · refine Or.inl ⟨hν i ?_, hμ c j h9 h10⟩
        rintro (rfl | hc)
        · have := gd_nd hi
          simp [gd_n] at this
        · have h1 := gd_inv hi
          have hall : ∀ i < 993, 754 ≤ i → i < 802 → (match gd i with | none => true | some (c, j) => decide (c = 9 ∨ c = 10)) = true := by decide +kernel
          have := hall i h1.2.2.1 hc.1 hc.2
          rw [hi] at this
          simp at this
          omega
  · match k, hk with
    | 0, _ =>
      have hT : gq_T (s (m + 1)) := G_q h 0 (by decide)
      show gq_T (s' (m + 1))
      intro p hp
      obtain ⟨t1, t2, t3⟩ := hT p hp
      rw [hν (706 + 2 * p) (by omega), hν (707 + 2 * p) (by omega), (m2 p hp).1, (m2 p hp).2]
      refine ⟨t1, ?_, fun h' t hh ht => ?_⟩
      · by_cases hP : P p = true
        · rw [if_pos hP, if_pos hP]; exact fun _ => rfl
        · rw [if_neg hP, if_neg hP]; exact t2
      · rw [hν _ (by omega), hν _ (by omega)]
        exact t3 h' t hh ht
    | 1, _ => exact keep 1 (by decide) (fun i hi => by simp [na] at hi; omega) (by decide)
    | 2, _ => exact keep 2 (by decide) (fun i hi => by simp [na] at hi; omega) (by decide)
    | 3, _ => exact keep 3 (by decide) (fun i hi => by simp [na] at hi; omega) (by decide)
    | 4, _ =>
      obtain ⟨⟨l1, l2, l3, l4, l5⟩, ⟨nn, o1, o2, o3⟩, o4⟩ := G_q h 4 (by decide)
      refine ⟨⟨l1.sublist List.filter_sublist, fun p => ?_, m3.2.1, m3.1, m3.2.2⟩, ⟨nn, o1, by rw [hμ 8 3 (by decide) (by decide)]; exact o2, fun p hp => ?_⟩, ?_⟩
      · rw [List.mem_filter, l2 p]
        constructor
        · rintro ⟨⟨q1, q2⟩, q3⟩
          have q4 : ¬ P p = true := by simpa using q3
          exact ⟨q1, by rw [(m2 p q1).1, if_neg q4]; exact q2⟩
        · rintro ⟨q1, q2⟩
          rw [(m2 p q1).1] at q2
          by_cases hP : P p = true
          · rw [if_pos hP] at q2; exact absurd rfl q2
          · rw [if_neg hP] at q2
            exact ⟨⟨q1, q2⟩, by simpa using hP⟩
      · rw [hμ 11 p (by decide) (by decide)]
        exact o3 p (List.mem_filter.mp hp).1
      · have e : ∀ p, μ' (e + (8 + 3)) p = μ (e + (8 + 3)) p := fun p => hμ 11 p (by decide) (by decide)
        simp only [e]
        exact o4.sublist List.filter_sublist
    | 5, _ => exact keep 5 (by decide) (fun i hi => by simp [na] at hi; omega) (by decide)
    | 6, _ => exact keep 6 (by decide) (fun i hi => by simp [na] at hi; omega) (by decide)
    | 7, _ => exact keep 7 (by decide) (fun i hi => by simp [na] at hi; omega) (by decide)
    | 8, _ =>
      obtain ⟨f1, f2⟩ : gq_F (s (m + 1)) L3 := G_q h 8 (by decide)
      refine ⟨fun h' hh hn p hp hf => ?_, ?_⟩
      · rw [hν 15 (by omega)] at hn
        rw [(m2 p hp).1] at hf
        by_cases hP : P p = true
        · rw [if_pos hP] at hf; exact absurd rfl hf
        · rw [if_neg hP] at hf
          obtain ⟨q, hq, q1, q2, q3⟩ := f1 h' hh hn p hp hf
          refine ⟨q, hq, by rw [hν _ (by omega)]; exact q1, by rw [hν _ (by omega), (m2 p hp).1, if_neg hP]; exact q2, ?_⟩
          rw [(m2 p hp).2, if_neg hP, hν (332 + 162 * h' + 2 * p) (by omega), q3]
          simp only [gr_2, hν 27 (by omega), hν (707 + 2 * q) (by omega)]
      · rw [hν 4 (by omega)]
        have := List.length_filter_le (fun p => !P p) L3
        omega
theorem lst_of {ν : Nat → Int32} {t row cnt : Nat} {L : List Nat} (h : gq_L ν t row cnt L) : lst ν row cnt L := ⟨h.2.2.2.1, h.2.2.1, h.2.2.2.2⟩
/-- the model's unfold -/
theorem m_unfold (hn : 1000 ≤ n) (hT : gq_T (s (m + 1))) (hL : gq_L (s (m + 1)) 754 786 23 L) {p : Nat} (hp : p < 16) : ∃ s', F_X11_unfold n m (nI p) s = some s' ∧ m_uf m (fun z => decide (z = p)) L s s' := by
  simp only [F_X11_unfold, m_to3 hp, m_entry3 hp, Option.bind_some, gw_let]
  by_cases h0 : s (m + 1) (754 + 2 * p) = -1
  · rw [if_neg (not_not_intro h0)]
    refine ⟨s, rfl, fun _ _ _ => rfl, fun z hz => ?_, ?_⟩
    · by_cases hzp : z = p
      · subst hzp
        simp only [decide_true, if_true]
        exact ⟨h0, (hT z hz).2.1 h0⟩
      · simp [hzp]
    · have : L.filter (fun z => !decide (z = p)) = L := by
        rw [List.filter_eq_self]
        intro z hz
        have := (hL.2.1 z).mp hz
        have hne : z ≠ p := by
          rintro rfl
          exact this.2 h0
        simp [hne]
      rw [this]
      exact lst_of hL
  · rw [if_pos h0, if_pos (of_eq_true (ckN (by omega) (by omega))), nI_1, if_pos (of_eq_true (ckN (by omega) (by omega))), nI_clamp (by omega), nI_clamp (by omega)]
    have hl2 : lst (gw_up (gw_up s (m + 1) (754 + 2 * p) (-1)) (m + 1) (754 + 2 * p + 1) 0 (m + 1)) 786 23 L := by
      obtain ⟨a1, a2, a3⟩ := lst_of hL
      refine ⟨?_, a2, fun k z hk => ?_⟩
      · rw [up_at, if_neg (by omega), up_at, if_neg (by omega)]; exact a1
      · have hlt := (List.getElem?_eq_some_iff.mp hk).1
        rw [up_at, if_neg (by omega), up_at, if_neg (by omega)]; exact a3 k z hk
    obtain ⟨s', e1, e2, e3⟩ := m_goOut (n0 := n) (p := p) hn (by decide) (by decide) (Or.inl (by decide)) hp (fun z hz => ((hL.2.1 z).mp hz).1) hl2
    have e1' : F_X11_goOut n m 786 23 (nI p) (gw_up (gw_up s (m + 1) (754 + 2 * p) (-1)) (m + 1) (754 + 2 * p + 1) 0) = some s' := e1
    rw [e1']
    refine ⟨s', rfl, fun a j hj => ?_, fun z hz => ?_, ?_⟩
    · rw [e2 a j (fun c => hj ⟨c.1, by omega⟩), up_at, if_neg (fun c => hj ⟨c.1, by omega⟩), up_at, if_neg (fun c => hj ⟨c.1, by omega⟩)]
    · constructor
      · rw [e2 _ _ (fun c => by omega), up_at, if_neg (by omega), up_at]
        by_cases hzp : z = p
        · subst hzp
          simp
        · rw [if_neg (by omega)]
          simp [hzp]
      · rw [e2 _ _ (fun c => by omega), up_at]
        by_cases hzp : z = p
        · subst hzp
          rw [if_pos ⟨rfl, by omega⟩]
          simp
        · rw [if_neg (by omega), up_at, if_neg (by omega)]
          simp [hzp]
    · have : (fun z => !decide (z = p)) = (fun z => decide (z ≠ p)) := by
        funext z
        by_cases hz : z = p <;> simp [hz]
      rw [this]
      exact e3
theorem uf_L {P : Nat → Bool} {s' : gw_M} (hT : gq_T (s (m + 1))) (hL : gq_L (s (m + 1)) 754 786 23 L) (h : m_uf m P L s s') : gq_T (s' (m + 1)) ∧ gq_L (s' (m + 1)) 754 786 23 (L.filter (fun p => !P p)) := by
  obtain ⟨m1, m2, m3⟩ := h
  have hν : ∀ i, ¬ (i = 23 ∨ (754 ≤ i ∧ i < 802)) → s' (m + 1) i = s (m + 1) i := fun i hi => m1 _ _ (fun c => hi c.2)
  obtain ⟨l1, l2, l3, l4, l5⟩ := hL
  refine ⟨fun p hp => ?_, l1.sublist List.filter_sublist, fun p => ?_, m3.2.1, m3.1, m3.2.2⟩
  · obtain ⟨t1, t2, t3⟩ := hT p hp
    rw [hν (706 + 2 * p) (by omega), hν (707 + 2 * p) (by omega), (m2 p hp).1, (m2 p hp).2]
    refine ⟨t1, ?_, fun h' t hh ht => ?_⟩
    · by_cases hP : P p = true
      · rw [if_pos hP, if_pos hP]; exact fun _ => rfl
      · rw [if_neg hP, if_neg hP]; exact t2
    · rw [hν _ (by omega), hν _ (by omega)]
      exact t3 h' t hh ht
  · rw [List.mem_filter, l2 p]
    constructor
    · rintro ⟨⟨q1, q2⟩, q3⟩
      have q4 : ¬ P p = true := by simpa using q3
      exact ⟨q1, by rw [(m2 p q1).1, if_neg q4]; exact q2⟩
    · rintro ⟨q1, q2⟩
      rw [(m2 p q1).1] at q2
      by_cases hP : P p = true
      · rw [if_pos hP] at q2; exact absurd rfl q2
      · rw [if_neg hP] at q2
        exact ⟨⟨q1, q2⟩, by simpa using hP⟩
theorem uf_trans {P Q : Nat → Bool} {s1 s2 : gw_M} (h1 : m_uf m P L s s1) (h2 : m_uf m Q (L.filter (fun p => !P p)) s1 s2) : m_uf m (fun p => P p || Q p) L s s2 := by
  obtain ⟨a1, a2, a3⟩ := h1
  obtain ⟨b1, b2, b3⟩ := h2
  refine ⟨fun a j hj => (b1 a j hj).trans (a1 a j hj), fun p hp => ?_, ?_⟩
  · rw [(b2 p hp).1, (b2 p hp).2, (a2 p hp).1, (a2 p hp).2]
    cases hP : P p <;> cases hQ : Q p <;> simp [hP, hQ]
  · rw [List.filter_filter] at b3
    have : (fun a => (!Q a) && (!P a)) = (fun p => !(P p || Q p)) := by
      funext p
      cases P p <;> cases Q p <;> rfl
    rw [this] at b3
    exact b3
theorem uf_refl (hL : lst (s (m + 1)) 786 23 L) : m_uf m (fun _ => false) L s s := by
  refine ⟨fun _ _ _ => rfl, fun p hp => by simp, ?_⟩
  have : L.filter (fun _ => !false) = L := List.filter_eq_self.mpr (fun _ _ => rfl)
  rw [this]
  exact hL
theorem uf_congr {P Q : Nat → Bool} {s' : gw_M} (h : m_uf m P L s s') (hPQ : ∀ p, p < 16 → P p = Q p) (hL : ∀ p ∈ L, p < 16) : m_uf m Q L s s' := by
  obtain ⟨a1, a2, a3⟩ := h
  refine ⟨a1, fun p hp => ?_, ?_⟩
  · rw [← hPQ p hp]; exact a2 p hp
  · have : L.filter (fun p => !Q p) = L.filter (fun p => !P p) := by
      apply List.filter_congr
      intro p hp
      rw [hPQ p (hL p hp)]
    rw [this]; exact a3
theorem m_unfoldAll2 (hn : 1000 ≤ n) : ∀ (d k f : Nat) (s : gw_M) (L : List Nat), k + d = 16 → d < f → gq_T (s (m + 1)) → gq_L (s (m + 1)) 754 786 23 L → ∃ s', F_X11_unfoldAll_2 n m f (nI k) s = some s' ∧ m_uf m (fun z => decide (k ≤ z)) L s s' := by
  intro d
  induction d with
  | zero =>
    intro k f s L hk hf hT hL
    obtain ⟨f, rfl⟩ : ∃ z, f = z + 1 := ⟨f - 1, by omega⟩
    have : k = 16 := by omega
    subst this
    rw [F_X11_unfoldAll_2, if_pos (by decide)]
    exact ⟨s, rfl, uf_congr (uf_refl (lst_of hL)) (fun p hp => (decide_eq_false (by omega)).symm) (fun z hz => ((hL.2.1 z).mp hz).1)⟩
  | succ d ih =>
    intro k f s L hk hf hT hL
    obtain ⟨f, rfl⟩ : ∃ z, f = z + 1 := ⟨f - 1, by omega⟩
    obtain ⟨s1, e1, u1⟩ := m_unfold (p := k) hn hT hL (by omega)
    obtain ⟨hT1, hL1⟩ := uf_L hT hL u1
    obtain ⟨s2, e2, u2⟩ := ih (k + 1) f s1 _ (by omega) (by omega) hT1 hL1
    rw [F_X11_unfoldAll_2, if_neg (by rw [show (16 : Int32) = nI 16 from rfl]; exact nI_ge (by omega) (by omega)), e1]
    simp only [Option.bind_some, gw_let, nI_1, e2]
    exact ⟨s2, rfl, uf_congr (uf_trans u1 u2) (fun p hp => by simp only [← Bool.decide_or, decide_eq_decide]; omega) (fun z hz => ((hL.2.1 z).mp hz).1)⟩
theorem m_unfoldAll (hn : 1000 ≤ n) (hT : gq_T (s (m + 1))) (hL : gq_L (s (m + 1)) 754 786 23 L) : ∃ s', F_X11_unfoldAll n m s = some s' ∧ m_uf m (fun _ => true) L s s' := by
  obtain ⟨s', e1, u1⟩ := m_unfoldAll2 hn 16 0 n s L rfl (by omega) hT hL
  exact ⟨s', e1, uf_congr u1 (fun p hp => by simp) (fun z hz => ((hL.2.1 z).mp hz).1)⟩
theorem m_unfoldTo2 (hn : 1000 ≤ n) {h : Nat} (hh : h < 3) (q : Int32) : ∀ (d k f : Nat) (s : gw_M) (L : List Nat), k + d = 16 → d < f → gq_T (s (m + 1)) → gq_L (s (m + 1)) 754 786 23 L → s (m + 1) 15 = nI h → ∃ s', F_X11_unfoldTo_2 n m f q (nI k) s = some s' ∧ m_uf m (fun z => decide (k ≤ z) && decide (s (m + 1) (331 + 162 * h + 2 * z) = q)) L s s' := by
  intro d
  induction d with
  | zero =>
    intro k f s L hk hf hT hL h1
    obtain ⟨f, rfl⟩ : ∃ z, f = z + 1 := ⟨f - 1, by omega⟩
    have : k = 16 := by omega
    subst this
    rw [F_X11_unfoldTo_2, if_pos (by decide)]
    exact ⟨s, rfl, uf_congr (uf_refl (lst_of hL)) (fun p hp => by rw [decide_eq_false (show ¬ 16 ≤ p by omega)]; rfl) (fun z hz => ((hL.2.1 z).mp hz).1)⟩
  | succ d ih =>
    intro k f s L hk hf hT hL h1
    obtain ⟨f, rfl⟩ : ∃ z, f = z + 1 := ⟨f - 1, by omega⟩
    have hto : F_X11_toOf n m 1 (nI k) s = some (s (m + 1) (331 + 162 * h + 2 * k)) := by
      have := m_to01 (n := n) (t := 1) (p := k) hh h1 (by decide) (by omega)
      rw [show 299 + 162 * h + 32 * 1 + 2 * k = 331 + 162 * h + 2 * k by omega] at this
      exact this
    rw [F_X11_unfoldTo_2, if_neg (by rw [show (16 : Int32) = nI 16 from rfl]; exact nI_ge (by omega) (by omega)), hto]
    simp only [Option.bind_some, F_X11_unfoldTo_23, gw_let, nI_1]
    by_cases hq : s (m + 1) (331 + 162 * h + 2 * k) = q
    · rw [if_neg (not_not_intro hq)]
      obtain ⟨s1, e1, u1⟩ := m_unfold (p := k) hn hT hL (by omega)
      obtain ⟨hT1, hL1⟩ := uf_L hT hL u1
      have hs1 : ∀ z, s1 (m + 1) (331 + 162 * h + 2 * z) = s (m + 1) (331 + 162 * h + 2 * z) ∨ 16 ≤ z := by
        intro z
        by_cases hz : z < 16
        · exact Or.inl (u1.1 _ _ (by omega))
        · exact Or.inr (by omega)
      obtain ⟨s2, e2, u2⟩ := ih (k + 1) f s1 _ (by omega) (by omega) hT1 hL1 (by rw [u1.1 _ _ (by omega)]; exact h1)
      rw [e1]
      simp only [Option.bind_some, e2]
      refine ⟨s2, rfl, uf_congr (uf_trans u1 u2) (fun p hp => ?_) (fun z hz => ((hL.2.1 z).mp hz).1)⟩
      rcases hs1 p with h2 | h2
      · simp only [h2]
        by_cases hpk : p = k
        · subst hpk
          simp [hq]
        · simp only [hpk, decide_false, Bool.false_or]
          congr 1
          simp only [decide_eq_decide]
          omega
      · omega
    · rw [if_pos hq]
      obtain ⟨s2, e2, u2⟩ := ih (k + 1) f s L (by omega) (by omega) hT hL h1
      rw [e2]
      refine ⟨s2, rfl, uf_congr u2 (fun p hp => ?_) (fun z hz => ((hL.2.1 z).mp hz).1)⟩
      by_cases hpk : p = k
      · subst hpk
        simp [hq]
      · congr 1
        simp only [decide_eq_decide]
        omega
theorem m_unfoldTo (hn : 1000 ≤ n) {h : Nat} (hh : h < 3) (q : Int32) (hT : gq_T (s (m + 1))) (hL : gq_L (s (m + 1)) 754 786 23 L) (h1 : s (m + 1) 15 = nI h) : ∃ s', F_X11_unfoldTo n m q s = some s' ∧ m_uf m (fun z => decide (s (m + 1) (331 + 162 * h + 2 * z) = q)) L s s' := by
  obtain ⟨s', e1, u1⟩ := m_unfoldTo2 hn hh q 16 0 n s L rfl (by omega) hT hL h1
  exact ⟨s', e1, uf_congr u1 (fun p hp => by simp) (fun z hz => ((hL.2.1 z).mp hz).1)⟩
/-! the class -/
theorem c_drop {p : Nat} (hp : p < 16) : ∃ μ', F_X8_drop n (e + 8) (nI p) μ = some μ' ∧ c_uf e (fun z => decide (z = p)) μ μ' := by
  simp only [F_X8_drop, gw_let, nI_clamp (show p < 2 ^ 31 by omega)]
  rw [if_pos ⟨nI_pos' (by omega), hp⟩, if_pos ⟨nI_pos' (by omega), hp⟩]
  refine ⟨_, rfl, fun a j hj => ?_, fun z hz => ?_⟩
  · rw [up_at, if_neg (by omega), up_at, if_neg (by omega)]
  · constructor
    · rw [up_at, if_neg (by omega), up_at]
      by_cases hzp : z = p
      · subst hzp
        rw [if_pos ⟨by omega, rfl⟩]
        simp
      · rw [if_neg (by omega)]
        simp [hzp]
    · rw [up_at]
      by_cases hzp : z = p
      · subst hzp
        rw [if_pos ⟨by omega, rfl⟩]
        simp
      · rw [if_neg (by omega), up_at, if_neg (by omega)]
        simp [hzp]
theorem cuf_trans {P Q : Nat → Bool} {μ1 μ2 : gw_M} (h1 : c_uf e P μ μ1) (h2 : c_uf e Q μ1 μ2) : c_uf e (fun p => P p || Q p) μ μ2 := by
  obtain ⟨a1, a2⟩ := h1
  obtain ⟨b1, b2⟩ := h2
  refine ⟨fun a j hj => (b1 a j hj).trans (a1 a j hj), fun p hp => ?_⟩
  rw [(b2 p hp).1, (b2 p hp).2, (a2 p hp).1, (a2 p hp).2]
  cases hP : P p <;> cases hQ : Q p <;> simp [hP, hQ]
theorem cuf_congr {P Q : Nat → Bool} {μ' : gw_M} (h : c_uf e P μ μ') (hPQ : ∀ p, p < 16 → P p = Q p) : c_uf e Q μ μ' :=
  ⟨h.1, fun p hp => by rw [← hPQ p hp]; exact h.2 p hp⟩
theorem cuf_refl : c_uf e (fun _ => false) μ μ := ⟨fun _ _ _ => rfl, fun p hp => by simp⟩
theorem cuf_uniq {P : Nat → Bool} {μ1 μ2 : gw_M} (h1 : c_uf e P μ μ1) (h2 : c_uf e P μ μ2) : μ1 = μ2 := by
  funext a j
  by_cases h : (a = e + 9 ∨ a = e + 10) ∧ j < 16
  · rcases h with ⟨rfl | rfl, hj⟩
    · rw [(h1.2 j hj).1, (h2.2 j hj).1]
    · rw [(h1.2 j hj).2, (h2.2 j hj).2]
  · rw [h1.1 a j h, h2.1 a j h]
theorem c_dropAll : ∃ μ', F_X8_dropAll n (e + 8) μ = some μ' ∧ c_uf e (fun _ => true) μ μ' := by
  simp only [F_X8_dropAll, gw_let]
  refine ⟨_, rfl, fun a j hj => ?_, fun z hz => ?_⟩
  · simp only [gw_fil]
    rw [if_neg (by omega), if_neg (by omega)]
  · constructor
    · show (if e + 9 = e + 8 + 2 ∧ z < 16 then _ else if e + 9 = e + 8 + 1 ∧ z < 16 then (-1 : Int32) else _) = _
      rw [if_neg (by omega), if_pos ⟨by omega, hz⟩]
      simp
    · show (if e + 10 = e + 8 + 2 ∧ z < 16 then (0 : Int32) else _) = _
      rw [if_pos ⟨by omega, hz⟩]
      simp
theorem c_unfold2 {h : Nat} (hh : h < 3) (x : Int32) : ∀ (d k f : Nat) (μ : gw_M), k + d = 16 → d < f → (∀ p, p < 16 → μ (e + 49 + 15 * h) p = -1 ∨ ∃ q, q ≤ 15 ∧ μ (e + 49 + 15 * h) p = nI q) → ∃ μ', F_X3_unfold_10 n e f x (e + 37 + 15 * h + 11) (nI k) μ = some μ' ∧ c_uf e (fun z => decide (k ≤ z) && (decide (μ (e + 49 + 15 * h) z ≠ -1) && bt x (μ (e + 49 + 15 * h) z).toNatClampNeg)) μ μ' := by
  intro d
  induction d with
  | zero =>
    intro k f μ hk hf hto
    obtain ⟨f, rfl⟩ : ∃ z, f = z + 1 := ⟨f - 1, by omega⟩
    have : k = 16 := by omega
    subst this
    rw [F_X3_unfold_10, if_pos (by decide)]
    exact ⟨μ, rfl, cuf_congr cuf_refl (fun p hp => by rw [decide_eq_false (show ¬ 16 ≤ p by omega)]; rfl)⟩
  | succ d ih =>
    intro k f μ hk hf hto
    obtain ⟨f, rfl⟩ : ∃ z, f = z + 1 := ⟨f - 1, by omega⟩
    have hc : 0 ≤ nI k ∧ k < 16 := ⟨nI_pos' (by omega), by omega⟩
    rw [F_X3_unfold_10, if_neg (by rw [show (16 : Int32) = nI 16 from rfl]; exact nI_ge (by omega) (by omega))]
    simp only [nI_clamp (show k < 2 ^ 31 by omega), if_pos hc, F_X3_unfold_47, gw_let, nI_1, show e + 37 + 15 * h + 11 + 1 = e + 49 + 15 * h by omega]
    rcases hto k (by omega) with h0 | ⟨q, hq, h0⟩
    · rw [if_pos h0]
      obtain ⟨μ2, e2, u2⟩ := ih (k + 1) f μ (by omega) (by omega) hto
      refine ⟨μ2, e2, cuf_congr u2 (fun p hp => ?_)⟩
      by_cases hpk : p = k
      · subst hpk
        simp [h0]
      · congr 1
        simp only [decide_eq_decide]
        omega
    · rw [h0, if_neg (by rw [nI_m1 (by omega)]; exact id), c_has n x (show q < 32 by omega)]
      simp only [Option.bind_some]
      by_cases hb : bt x q = true
      · rw [hb, if_neg (by decide)]
        obtain ⟨μ1, e1, u1⟩ := c_drop (n := n) (e := e) (μ := μ) (p := k) (by omega)
        have hs1 : ∀ z, μ1 (e + 49 + 15 * h) z = μ (e + 49 + 15 * h) z := fun z => u1.1 _ _ (by omega)
        obtain ⟨μ2, e2, u2⟩ := ih (k + 1) f μ1 (by omega) (by omega) (fun p hp => by rw [hs1]; exact hto p hp)
        rw [e1]
        simp only [Option.bind_some, e2]
        refine ⟨μ2, rfl, cuf_congr (cuf_trans u1 u2) (fun p hp => ?_)⟩
        simp only [hs1]
        by_cases hpk : p = k
        · subst hpk
          have hm1 : ¬ nI q = -1 := by rw [nI_m1 (by omega)]; exact id
          simp only [h0, nI_clamp (show q < 2 ^ 31 by omega), hb]
          simp [hm1]
        · simp only [hpk, decide_false, Bool.false_or]
          congr 1
          simp only [decide_eq_decide]
          omega
      · have hb' : bt x q = false := by simpa using hb
        rw [hb', if_pos (by rfl)]
        obtain ⟨μ2, e2, u2⟩ := ih (k + 1) f μ (by omega) (by omega) hto
        rw [e2]
        refine ⟨μ2, rfl, cuf_congr u2 (fun p hp => ?_)⟩
        by_cases hpk : p = k
        · subst hpk
          simp [h0, nI_clamp (show q < 2 ^ 31 by omega), hb']
        · congr 1
          simp only [decide_eq_decide]
          omega
theorem c_unfold {h : Nat} (hn : 1000 ≤ n) (hh : h < 3) (h1 : μ e 5 = nI h) (x : Int32) (hto : ∀ p, p < 16 → μ (e + 49 + 15 * h) p = -1 ∨ ∃ q, q ≤ 15 ∧ μ (e + 49 + 15 * h) p = nI q) : ∃ μ', F_X3_unfold n e x μ = some μ' ∧ c_uf e (fun z => decide (μ (e + 49 + 15 * h) z ≠ -1) && bt x (μ (e + 49 + 15 * h) z).toNatClampNeg) μ μ' := by
  obtain ⟨μ', e1, u1⟩ := c_unfold2 (n := n) (e := e) hh x 16 0 n μ rfl (by omega) hto
  refine ⟨μ', ?_, cuf_congr u1 (fun p hp => by simp)⟩
  simp only [F_X3_unfold, c_inHand hh h1, Option.bind_some]
  exact e1
end FOLD
