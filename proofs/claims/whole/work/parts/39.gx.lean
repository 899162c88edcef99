/-! ===== step by step, with some components set aside ===== -/
def GX (E : Nat → Bool) (b e m : Nat) (K N : gw_M) (L3 L2 : List Nat) (μ s : gw_M) : Prop :=
  b < 2 ^ 28 ∧ (∀ a j, a < e ∨ e + 82 ≤ a → μ a j = K a j) ∧ (∀ a j, ¬ (a = m + 1 ∧ 2 ≤ j ∧ j < 993) → s a j = N a j) ∧ (∀ i c j, gd i = some (c, j) → s (m + 1) i = μ (e + c) j ∧ gq_r b i (s (m + 1) i)) ∧ ∀ k, k < 9 → E k = false → gq k b e L3 L2 μ (s (m + 1))
theorem up_comm {μ : gw_M} {a j a' j' : Nat} {v v' : Int32} (h : ¬ (a = a' ∧ j = j')) : gw_up (gw_up μ a j v) a' j' v' = gw_up (gw_up μ a' j' v') a j v := by
  funext x y
  simp only [gw_up]
  by_cases h1 : x = a' ∧ y = j'
  · rw [if_pos h1]
    by_cases h2 : x = a ∧ y = j
    · exact absurd ⟨h2.1.symm.trans h1.1, h2.2.symm.trans h1.2⟩ h
    · rw [if_neg h2, if_pos h1]
  · rw [if_neg h1]
    split
    · rfl
    · rfl
theorem up_same {μ : gw_M} {a j : Nat} {v v' : Int32} : gw_up (gw_up μ a j v) a j v' = gw_up μ a j v' := by
  funext x y
  simp only [gw_up]
  split <;> rfl
theorem up_id {μ : gw_M} {a j : Nat} : gw_up μ a j (μ a j) = μ := by
  funext x y
  simp only [gw_up]
  split
  · next h => rw [h.1, h.2]
  · rfl
theorem up_ne {s : gw_M} {a j a' j' : Nat} {v : Int32} (h : ¬ (a' = a ∧ j' = j)) : gw_up s a j v a' j' = s a' j' := by rw [up_at, if_neg h]
theorem up_eq {s : gw_M} {a j a' j' : Nat} {v : Int32} (h : a' = a ∧ j' = j) : gw_up s a j v a' j' = v := by rw [up_at, if_pos h]
theorem gd_no {c j : Nat} (h : gd (gd_v c j) ≠ some (c, j)) : ∀ i, gd i ≠ some (c, j) := by
  intro i hi
  apply h
  rw [(gd_inv hi).1]
  exact hi
section GXS
variable {E E' : Nat → Bool} {b b' e m n : Nat} {K N : gw_M} {L3 L2 L3' L2' : List Nat} {μ s : gw_M}
theorem GX_of (h : G b e m K N L3 L2 μ s) : GX (fun _ => false) b e m K N L3 L2 μ s := ⟨h.2.2.1, h.1, h.2.1, h.2.2.2.1, fun k hk _ => h.2.2.2.2 k hk⟩
theorem GX_end (h : GX E b e m K N L3 L2 μ s) (h3 : E 4 = false ∨ E 8 = false → L3' = L3) (h2 : E 5 = false → L2' = L2) (hk : ∀ k, k < 9 → E k = true → gq k b e L3' L2' μ (s (m + 1))) : G b e m K N L3' L2' μ s := by
  refine ⟨h.2.1, h.2.2.1, h.1, h.2.2.2.1, fun k hk9 => ?_⟩
  cases hE : E k
  · refine gq_keep (h.2.2.2.2 k hk9 hE) (Nat.le_refl _) (fun c => ?_) (fun c => ?_) (fun _ _ => rfl) (fun _ _ _ => rfl)
    · rcases c with rfl | rfl
      · exact h3 (Or.inl hE)
      · exact h3 (Or.inr hE)
    · subst c
      exact h2 hE
  · exact hk k hk9 hE
theorem GX_b (h : GX E b e m K N L3 L2 μ s) (hb : b ≤ b') (hb' : b' < 2 ^ 28) : GX E b' e m K N L3 L2 μ s := by
  refine ⟨hb', h.2.1, h.2.2.1, fun i c j hi => ?_, fun k hk hE => gq_mono (h.2.2.2.2 k hk hE) hb⟩
  obtain ⟨a1, a2, a3⟩ := h.2.2.2.1 i c j hi
  refine ⟨a1, a2, Int.le_trans a3 ?_⟩
  have : (gd_q i).2.2 * b ≤ (gd_q i).2.2 * b' := Nat.mul_le_mul_left _ hb
  omega
theorem GX_E (h : GX E b e m K N L3 L2 μ s) (hE : ∀ k, k < 9 → E' k = false → E k = false) : GX E' b e m K N L3 L2 μ s :=
  ⟨h.1, h.2.1, h.2.2.1, h.2.2.2.1, fun k hk h1 => h.2.2.2.2 k hk (hE k hk h1)⟩
theorem GX_up (h : GX E b e m K N L3 L2 μ s) {i c j : Nat} (hi : gd i = some (c, j)) {v : Int32} (hv : gq_r b i v) : GX (fun k => E k || na k i) b e m K N L3 L2 (gw_up μ (e + c) j v) (gw_up s (m + 1) i v) := by
  obtain ⟨q1, q2, q3, q4⟩ := gd_inv hi
  refine ⟨h.1, fun a j' ha => ?_, fun a j' ha => ?_, fun i' c' j' hi' => ?_, fun k hk hE => ?_⟩
  · rw [up_ne (by omega)]
    exact h.2.1 a j' ha
  · rw [up_ne (fun c => ha ⟨c.1, by omega, by omega⟩)]
    exact h.2.2.1 a j' ha
  · by_cases e1 : i' = i
    · subst e1
      rw [hi] at hi'
      cases hi'
      rw [up_eq ⟨rfl, rfl⟩, up_eq ⟨rfl, rfl⟩]
      exact ⟨rfl, hv⟩
    · rw [up_ne (by omega), up_ne]
      · exact h.2.2.2.1 i' c' j' hi'
      · rintro ⟨w1, w2⟩
        have : c' = c := by omega
        subst this
        subst w2
        exact e1 (gd_inj hi' hi)
  · simp only [Bool.or_eq_false_iff] at hE
    refine gq_congr (h.2.2.2.2 k hk hE.1) (fun i' hi' => ?_) (fun c' j' hc => ?_)
    · rw [up_ne]
      rintro ⟨-, rfl⟩
      rw [hE.2] at hi'
      cases hi'
    · rw [up_ne]
      rintro ⟨w1, w2⟩
      have : c' = c := by omega
      subst this
      subst w2
      rw [gd_nb i c' j' hi k hk] at hc
      cases hc
/-- a cell that the class alone has -/
theorem GX_c (h : GX E b e m K N L3 L2 μ s) {c j : Nat} (hc : c < 82) (hn : ∀ i, gd i ≠ some (c, j)) (v : Int32) : GX (fun k => E k || nb k c j) b e m K N L3 L2 (gw_up μ (e + c) j v) s := by
  refine ⟨h.1, fun a j' ha => ?_, h.2.2.1, fun i' c' j' hi' => ?_, fun k hk hE => ?_⟩
  · rw [up_ne (by omega)]
    exact h.2.1 a j' ha
  · rw [up_ne]
    · exact h.2.2.2.1 i' c' j' hi'
    · rintro ⟨w1, w2⟩
      have : c' = c := by omega
      subst this
      subst w2
      exact hn _ hi'
  · simp only [Bool.or_eq_false_iff] at hE
    refine gq_congr (h.2.2.2.2 k hk hE.1) (fun i' hi' => rfl) (fun c' j' hc' => ?_)
    rw [up_ne]
    rintro ⟨w1, w2⟩
    have : c' = c := by omega
    subst this
    subst w2
    rw [hE.2] at hc'
    cases hc'
/-- places that the model alone has -/
theorem GX_m (h : GX E b e m K N L3 L2 μ s) {s' : gw_M} (J : Nat → Bool) (hs : ∀ a j, ¬ (a = m + 1 ∧ J j = true) → s' a j = s a j) (hJ : ∀ j, J j = true → 2 ≤ j ∧ j < 993 ∧ gd j = none) (hE : ∀ k, k < 9 → E' k = false → E k = false ∧ ∀ i, J i = true → na k i = false) : GX E' b e m K N L3 L2 μ s' := by
  refine ⟨h.1, h.2.1, fun a j' ha => ?_, fun i' c' j' hi' => ?_, fun k hk hE2 => ?_⟩
  · rw [hs a j' (fun c => ha ⟨c.1, (hJ _ c.2).1, (hJ _ c.2).2.1⟩)]
    exact h.2.2.1 a j' ha
  · rw [hs]
    · exact h.2.2.2.1 i' c' j' hi'
    · rintro ⟨-, w2⟩
      rw [(hJ _ w2).2.2] at hi'
      cases hi'
  · obtain ⟨h1, h2⟩ := hE k hk hE2
    refine gq_congr (h.2.2.2.2 k hk h1) (fun i' hi' => ?_) (fun _ _ _ => rfl)
    rw [hs]
    rintro ⟨-, w2⟩
    rw [h2 _ w2] at hi'
    cases hi'
/-- cells that the class alone has, many -/
theorem GX_cs (h : GX E b e m K N L3 L2 μ s) {μ' : gw_M} (J : Nat → Nat → Bool) (hs : ∀ a j, ¬ (∃ c, a = e + c ∧ J c j = true) → μ' a j = μ a j) (hJ : ∀ c j, J c j = true → c < 82 ∧ ∀ i, gd i ≠ some (c, j)) (hE : ∀ k, k < 9 → E' k = false → E k = false ∧ ∀ c j, J c j = true → nb k c j = false) : GX E' b e m K N L3 L2 μ' s := by
  refine ⟨h.1, fun a j' ha => ?_, h.2.2.1, fun i' c' j' hi' => ?_, fun k hk hE2 => ?_⟩
  · rw [hs a j']
    · exact h.2.1 a j' ha
    · rintro ⟨c, rfl, hc⟩
      have := (hJ _ _ hc).1
      omega
  · rw [hs]
    · exact h.2.2.2.1 i' c' j' hi'
    · rintro ⟨c, w1, w2⟩
      have : c' = c := by omega
      subst this
      exact (hJ _ _ w2).2 _ hi'
  · obtain ⟨h1, h2⟩ := hE k hk hE2
    refine gq_congr (h.2.2.2.2 k hk h1) (fun i' hi' => rfl) (fun c' j' hc => ?_)
    rw [hs]
    rintro ⟨c, w1, w2⟩
    have : c' = c := by omega
    subst this
    rw [h2 _ _ w2] at hc
    cases hc
end GXS
