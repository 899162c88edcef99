/-! ===== loops over tables ===== -/
def hd (L : List Nat) : Int32 := match L with
  | [] => -1
  | p :: _ => nI p
def low (P : Nat → Bool) : Nat → Nat → Int32
  | _, 0 => -1
  | k, d + 1 => if P k then low P (k + 1) d else nI k
def led (ν : Nat → Int32) (f : Nat) : Bool := (List.range 16).any (fun p => decide (ν p = nI f))
theorem range0 (n : Nat) : List.range n = List.range' 0 n := List.range_eq_range'
theorem low_rg (P : Nat → Bool) : ∀ d k, low P k d = -1 ∨ ∃ f, k ≤ f ∧ f < k + d ∧ low P k d = nI f ∧ P f = false := by
  intro d
  induction d with
  | zero => intro k; exact Or.inl rfl
  | succ d ih =>
    intro k
    unfold low
    by_cases h : P k = true
    · rw [if_pos h]
      rcases ih (k + 1) with h1 | ⟨f, h1, h2, h3, h4⟩
      · exact Or.inl h1
      · exact Or.inr ⟨f, by omega, by omega, h3, h4⟩
    · rw [if_neg h]
      exact Or.inr ⟨k, by omega, by omega, rfl, by simpa using h⟩
theorem low_m1 (P : Nat → Bool) : ∀ d k, k + d < 2 ^ 31 → low P k d = -1 → ∀ f, k ≤ f → f < k + d → P f = true := by
  intro d
  induction d with
  | zero => intro k _ _ f h1 h2; omega
  | succ d ih =>
    intro k hk h f h1 h2
    unfold low at h
    by_cases hP : P k = true
    · rw [if_pos hP] at h
      by_cases hf : f = k
      · subst hf; exact hP
      · exact ih (k + 1) (by omega) h f (by omega) (by omega)
    · rw [if_neg hP, nI_m1 (by omega)] at h
      exact h.elim
theorem low_cg {P Q : Nat → Bool} : ∀ d k, (∀ f, k ≤ f → f < k + d → P f = Q f) → low P k d = low Q k d := by
  intro d
  induction d with
  | zero => intro k _; rfl
  | succ d ih =>
    intro k h
    unfold low
    rw [h k (by omega) (by omega), ih (k + 1) (fun f h1 h2 => h f (by omega) (by omega))]
section TABS
variable {b e m n a : Nat} {K N : gw_M} {L3 L2 L : List Nat} {μ s : gw_M}
theorem c_size4 : ∀ (d k f c : Nat), k + d = 16 → d < f → F_X8_size_4 n a f (nI c) (nI k) μ = some (nI (c + ((List.range' k d).filter (fun p => decide (μ (a + 1) p ≠ -1))).length)) := by
  intro d
  induction d with
  | zero =>
    intro k f c hk hf
    obtain ⟨f, rfl⟩ : ∃ z, f = z + 1 := ⟨f - 1, by omega⟩
    have : k = 16 := by omega
    subst this
    rw [F_X8_size_4, if_pos (by decide)]
    rfl
  | succ d ih =>
    intro k f c hk hf
    obtain ⟨f, rfl⟩ : ∃ z, f = z + 1 := ⟨f - 1, by omega⟩
    have hc : 0 ≤ nI k ∧ k < 16 := ⟨nI_pos' (by omega), by omega⟩
    rw [F_X8_size_4, if_neg (by rw [show (16 : Int32) = nI 16 from rfl]; exact nI_ge (by omega) (by omega))]
    simp only [nI_clamp (show k < 2 ^ 31 by omega), if_pos hc, F_X8_size_23, gw_let, nI_1]
    rw [List.range'_succ, List.filter_cons]
    by_cases h0 : μ (a + 1) k = -1
    · rw [if_pos h0, ih (k + 1) f c (by omega) (by omega), if_neg (by simp [h0])]
    · rw [if_neg h0, ih (k + 1) f (c + 1) (by omega) (by omega), if_pos (by simp [h0]), List.length_cons]
      congr 2
      omega
theorem c_size (hn : 1000 ≤ n) : F_X8_size n a μ = some (nI ((List.range 16).filter (fun p => decide (μ (a + 1) p ≠ -1))).length) := by
  have := c_size4 (n := n) (a := a) (μ := μ) 16 0 n 0 rfl (by omega)
  rw [range0, F_X8_size, show (0 : Int32) = nI 0 from rfl, this, Nat.zero_add]
theorem len_eq {L : List Nat} (h1 : L.Nodup) {P : Nat → Bool} (h2 : ∀ p, p ∈ L ↔ p < 16 ∧ P p = true) : ((List.range 16).filter P).length = L.length := by
  apply Nat.le_antisymm
  · apply List.Nodup.length_le_of_subset (List.nodup_range.sublist List.filter_sublist)
    intro p hp
    have := List.mem_filter.mp hp
    exact (h2 p).mpr ⟨List.mem_range.mp this.1, this.2⟩
  · apply List.Nodup.length_le_of_subset h1
    intro p hp
    have := (h2 p).mp hp
    exact List.mem_filter.mpr ⟨List.mem_range.mpr this.1, this.2⟩
theorem c_eldest4 (hL : ∀ p, p ∈ L ↔ p < 16 ∧ μ (a + 1) p ≠ -1) : ∀ (d k f : Nat) (v : Int32), k + d = 16 → d < f → ((v = -1 ∧ ∀ p ∈ L, k ≤ p) ∨ ∃ p, p ∈ L ∧ v = nI p ∧ ∀ q ∈ L, q < k → (μ (a + 3) p).toInt ≤ (μ (a + 3) q).toInt) → ∃ r, F_X8_eldest_4 n a f v (nI k) μ = some r ∧ ((r = -1 ∧ ∀ p, p ∉ L) ∨ ∃ p, p ∈ L ∧ r = nI p ∧ ∀ q ∈ L, (μ (a + 3) p).toInt ≤ (μ (a + 3) q).toInt) := by
  intro d
  induction d with
  | zero =>
    intro k f v hk hf hv
    obtain ⟨f, rfl⟩ : ∃ z, f = z + 1 := ⟨f - 1, by omega⟩
    have : k = 16 := by omega
    subst this
    rw [F_X8_eldest_4, if_pos (by decide)]
    refine ⟨v, rfl, ?_⟩
    rcases hv with ⟨h1, h2⟩ | ⟨p, h1, h2, h3⟩
    · refine Or.inl ⟨h1, fun p hp => ?_⟩
      have := h2 p hp
      have := ((hL p).mp hp).1
      omega
    · exact Or.inr ⟨p, h1, h2, fun q hq => h3 q hq ((hL q).mp hq).1⟩
  | succ d ih =>
    intro k f v hk hf hv
    obtain ⟨f, rfl⟩ : ∃ z, f = z + 1 := ⟨f - 1, by omega⟩
    have hc : 0 ≤ nI k ∧ k < 16 := ⟨nI_pos' (by omega), by omega⟩
    rw [F_X8_eldest_4, if_neg (by rw [show (16 : Int32) = nI 16 from rfl]; exact nI_ge (by omega) (by omega))]
    simp only [nI_clamp (show k < 2 ^ 31 by omega), if_pos hc, F_X8_eldest_42, F_X8_eldest_40, gw_let, nI_1]
    by_cases h0 : μ (a + 1) k = -1
    · rw [if_pos h0]
      have hkL : k ∉ L := fun c => ((hL k).mp c).2 h0
      refine ih (k + 1) f v (by omega) (by omega) ?_
      rcases hv with ⟨h1, h2⟩ | ⟨p, h1, h2, h3⟩
      · refine Or.inl ⟨h1, fun p hp => ?_⟩
        have h4 := h2 p hp
        have : p ≠ k := fun c => hkL (c ▸ hp)
        omega
      · refine Or.inr ⟨p, h1, h2, fun q hq hqk => ?_⟩
        have : q ≠ k := fun c => hkL (c ▸ hq)
        exact h3 q hq (by omega)
    · rw [if_neg h0]
      have hkL : k ∈ L := (hL k).mpr ⟨by omega, h0⟩
      rcases hv with ⟨h1, h2⟩ | ⟨p, h1, h2, h3⟩
      · rw [if_pos h1]
        refine ih (k + 1) f (nI k) (by omega) (by omega) (Or.inr ⟨k, hkL, rfl, fun q hq hqk => ?_⟩)
        have := h2 q hq
        have : q = k := by omega
        subst this
        exact Int.le_refl _
      · have hp16 := ((hL p).mp h1).1
        have hcp : 0 ≤ nI p ∧ p < 16 := ⟨nI_pos' (by omega), hp16⟩
        rw [h2, if_neg (by rw [nI_m1 (by omega)]; exact id)]
        simp only [nI_clamp (show p < 2 ^ 31 by omega), if_pos hcp]
        by_cases hle : μ (a + 3) p ≤ μ (a + 3) k
        · rw [if_pos hle]
          refine ih (k + 1) f (nI p) (by omega) (by omega) (Or.inr ⟨p, h1, rfl, fun q hq hqk => ?_⟩)
          by_cases hqk2 : q = k
          · subst hqk2
            exact Int32.le_iff_toInt_le.mp hle
          · exact h3 q hq (by omega)
        · rw [if_neg hle]
          have hlt : (μ (a + 3) k).toInt < (μ (a + 3) p).toInt := by
            rw [Int32.le_iff_toInt_le] at hle
            omega
          refine ih (k + 1) f (nI k) (by omega) (by omega) (Or.inr ⟨k, hkL, rfl, fun q hq hqk => ?_⟩)
          by_cases hqk2 : q = k
          · subst hqk2
            exact Int.le_refl _
          · have := h3 q hq (by omega)
            omega
theorem c_eldest (hn : 1000 ≤ n) (hL : ∀ p, p ∈ L ↔ p < 16 ∧ μ (a + 1) p ≠ -1) (hO : L.Pairwise (fun p q => (μ (a + 3) p).toInt < (μ (a + 3) q).toInt)) : F_X8_eldest n a μ = some (hd L) := by
  obtain ⟨r, e1, h1⟩ := c_eldest4 (n := n) hL 16 0 n (-1) rfl (by omega) (Or.inl ⟨rfl, fun p _ => Nat.zero_le _⟩)
  rw [F_X8_eldest, show (0 : Int32) = nI 0 from rfl, e1]
  congr 1
  match L, hL, hO, h1 with
  | [], _, _, h1 =>
    rcases h1 with ⟨h2, -⟩ | ⟨p, h2, -⟩
    · exact h2
    · cases h2
  | p :: L', hL, hO, h1 =>
    rcases h1 with ⟨-, h2⟩ | ⟨q, h2, h3, h4⟩
    · exact absurd List.mem_cons_self (h2 p)
    · rw [h3]
      rcases List.mem_cons.mp h2 with rfl | h5
      · rfl
      · have h6 := List.rel_of_pairwise_cons hO h5
        have h7 := h4 p List.mem_cons_self
        omega
theorem c_led4 : ∀ (d k f : Nat) (x : Int32), k + d = 16 → d < f → (∀ p, p < 16 → μ (a + 2) p = -1 ∨ ∃ q, q ≤ 9 ∧ μ (a + 2) p = nI q) → ∃ y, F_X4_framesLedTo_4 n a f x (nI k) μ = some y ∧ ∀ i, i < 32 → bt y i = (bt x i || (List.range' k d).any (fun p => decide (μ (a + 2) p = nI i))) := by
  intro d
  induction d with
  | zero =>
    intro k f x hk hf ht
    obtain ⟨f, rfl⟩ : ∃ z, f = z + 1 := ⟨f - 1, by omega⟩
    have : k = 16 := by omega
    subst this
    rw [F_X4_framesLedTo_4, if_pos (by decide)]
    exact ⟨x, rfl, fun i _ => by simp⟩
  | succ d ih =>
    intro k f x hk hf ht
    obtain ⟨f, rfl⟩ : ∃ z, f = z + 1 := ⟨f - 1, by omega⟩
    have hc : 0 ≤ nI k ∧ k < 16 := ⟨nI_pos' (by omega), by omega⟩
    rw [F_X4_framesLedTo_4, if_neg (by rw [show (16 : Int32) = nI 16 from rfl]; exact nI_ge (by omega) (by omega))]
    simp only [nI_clamp (show k < 2 ^ 31 by omega), if_pos hc, F_X4_framesLedTo_37, gw_let, nI_1]
    rcases ht k (by omega) with h0 | ⟨q, hq, h0⟩
    · rw [if_pos h0]
      obtain ⟨y, e1, e2⟩ := ih (k + 1) f x (by omega) (by omega) ht
      refine ⟨y, e1, fun i hi => ?_⟩
      have hm : ¬ (-1 : Int32) = nI i := fun c => by
        have := nI_m1 (k := i) (by omega)
        rw [eq_comm, this] at c
        exact c
      rw [e2 i hi, List.range'_succ, List.any_cons, h0, decide_eq_false hm, Bool.false_or]
    · rw [h0, if_neg (by rw [nI_m1 (by omega)]; exact id)]
      obtain ⟨y, e1, e2⟩ := ih (k + 1) f (x ||| ((1 : Int32) <<< (nI q &&& 31))) (by omega) (by omega) ht
      refine ⟨y, e1, fun i hi => ?_⟩
      rw [e2 i hi, b_set x (by omega) hi, List.range'_succ, List.any_cons, h0, Bool.or_assoc]
      congr 2
      rw [decide_eq_decide, nI_eqT (by omega) (by omega)]
      omega
theorem c_led (hn : 1000 ≤ n) (ht : ∀ p, p < 16 → μ (e + 3) p = -1 ∨ ∃ q, q ≤ 9 ∧ μ (e + 3) p = nI q) : ∃ y, F_X4_framesLedTo n (e + 1) μ = some y ∧ ∀ i, i < 32 → bt y i = led (μ (e + 3)) i := by
  obtain ⟨y, e1, e2⟩ := c_led4 (n := n) (a := e + 1) (μ := μ) 16 0 n 0 rfl (by omega) ht
  refine ⟨y, e1, fun i hi => ?_⟩
  rw [e2 i hi, b_0, Bool.false_or, led, range0]
theorem c_low2 (x : Int32) : ∀ (d k f : Nat), k + d = 10 → d < f → F_X10_lowestOutside_2 n f x (nI k) μ = some (low (bt x) k d) := by
  intro d
  induction d with
  | zero =>
    intro k f hk hf
    obtain ⟨f, rfl⟩ : ∃ z, f = z + 1 := ⟨f - 1, by omega⟩
    have : k = 10 := by omega
    subst this
    rw [F_X10_lowestOutside_2, if_pos (by decide)]
    rfl
  | succ d ih =>
    intro k f hk hf
    obtain ⟨f, rfl⟩ : ∃ z, f = z + 1 := ⟨f - 1, by omega⟩
    rw [F_X10_lowestOutside_2, if_neg (by rw [show (10 : Int32) = nI 10 from rfl]; exact nI_ge (by omega) (by omega))]
    simp only [b_hb0 x (show k < 32 by omega), gw_let, nI_1, ih (k + 1) f (by omega) (by omega)]
    rw [show low (bt x) k (d + 1) = if bt x k then low (bt x) (k + 1) d else nI k from rfl]
    cases bt x k <;> simp
theorem c_low (hn : 1000 ≤ n) (x : Int32) : F_X10_lowestOutside n x μ = some (low (bt x) 0 10) := c_low2 x 10 0 n rfl (by omega)
/-- the lowest frame that is free, the class's way -/
theorem c_free (hn : 1000 ≤ n) (ht : ∀ p, p < 16 → μ (e + 3) p = -1 ∨ ∃ q, q ≤ 9 ∧ μ (e + 3) p = nI q) : ∃ y, F_X4_framesLedTo n (e + 1) μ = some y ∧ ∀ μ', F_X10_lowestOutside n y μ' = some (low (led (μ (e + 3))) 0 10) := by
  obtain ⟨y, e1, e2⟩ := c_led (n := n) hn ht
  refine ⟨y, e1, fun μ' => ?_⟩
  rw [c_low hn]
  congr 1
  exact low_cg 10 0 (fun f _ hf => e2 f (by omega))
theorem m_free12 {fr : Nat} (rec2 : Int32 → gw_M → Option Int32) : ∀ (d k f : Nat) (fl : Bool), k + d = 16 → d < f → F_X11_freeFrame_12 rec2 n m f (nI fr) (if fl then 1 else 0) (nI k) s = if fl && !(List.range' k d).any (fun p => decide (s (m + 1) (706 + 2 * p) = nI fr)) then some (nI fr) else rec2 (nI (fr + 1)) s := by
  intro d
  induction d with
  | zero =>
    intro k f fl hk hf
    obtain ⟨f, rfl⟩ : ∃ z, f = z + 1 := ⟨f - 1, by omega⟩
    have : k = 16 := by omega
    subst this
    rw [F_X11_freeFrame_12, if_pos (by decide)]
    cases fl <;> simp [gw_let, nI_1]
  | succ d ih =>
    intro k f fl hk hf
    obtain ⟨f, rfl⟩ : ∃ z, f = z + 1 := ⟨f - 1, by omega⟩
    rw [F_X11_freeFrame_12, if_neg (by rw [show (16 : Int32) = nI 16 from rfl]; exact nI_ge (by omega) (by omega))]
    simp only [F_X11_freeFrame_36, F_X11_freeFrame_37, gw_let, nI_1, m_to2 (n := n) (m := m) (s := s) (show k < 16 by omega), Option.bind_some]
    have i0 := ih (k + 1) f false (by omega) (by omega)
    have i1 := ih (k + 1) f true (by omega) (by omega)
    simp only [Bool.false_eq_true, if_false, Bool.false_and] at i0
    simp only [if_true, Bool.true_and] at i1
    rw [List.range'_succ, List.any_cons]
    cases fl
    · simp [i0]
    · by_cases h0 : s (m + 1) (706 + 2 * k) = nI fr
      · simp [h0, i0]
      · rw [decide_eq_false h0, Bool.false_or, Bool.true_and, ← i1]
        simp [h0]
theorem m_free2 (hn : 1000 ≤ n) : ∀ (d k f : Nat), k + d = 10 → d < f → F_X11_freeFrame_2 n m f (nI k) s = some (low (led (fun p => s (m + 1) (706 + 2 * p))) k d) := by
  intro d
  induction d with
  | zero =>
    intro k f hk hf
    obtain ⟨f, rfl⟩ : ∃ z, f = z + 1 := ⟨f - 1, by omega⟩
    have : k = 10 := by omega
    subst this
    rw [F_X11_freeFrame_2, if_pos (by decide)]
    rfl
  | succ d ih =>
    intro k f hk hf
    obtain ⟨f, rfl⟩ : ∃ z, f = z + 1 := ⟨f - 1, by omega⟩
    rw [F_X11_freeFrame_2, if_neg (by rw [show (10 : Int32) = nI 10 from rfl]; exact nI_ge (by omega) (by omega))]
    have := m_free12 (n := n) (m := m) (s := s) (fr := k) (F_X11_freeFrame_2 n m f) 16 0 n true rfl (by omega)
    simp only [if_true, Bool.true_and] at this
    rw [show (0 : Int32) = nI 0 from rfl, this, ih (k + 1) f (by omega) (by omega)]
    have hl : (List.range' 0 16).any (fun p => decide (s (m + 1) (706 + 2 * p) = nI k)) = led (fun p => s (m + 1) (706 + 2 * p)) k := by
      unfold led
      rw [range0]
    rw [hl]
    rw [show low (led (fun p => s (m + 1) (706 + 2 * p))) k (d + 1) = if led (fun p => s (m + 1) (706 + 2 * p)) k then low (led (fun p => s (m + 1) (706 + 2 * p))) (k + 1) d else nI k from rfl]
    cases led (fun p => s (m + 1) (706 + 2 * p)) k <;> simp
theorem m_free (hn : 1000 ≤ n) : F_X11_freeFrame n m s = some (low (led (fun p => s (m + 1) (706 + 2 * p))) 0 10) := m_free2 hn 10 0 n rfl (by omega)
theorem led_cg {ν ν' : Nat → Int32} (h : ∀ p, p < 16 → ν p = ν' p) (f : Nat) : led ν f = led ν' f := by
  unfold led
  rw [Bool.eq_iff_iff, List.any_eq_true, List.any_eq_true]
  constructor
  · rintro ⟨p, h1, h2⟩
    exact ⟨p, h1, by rw [← h p (List.mem_range.mp h1)]; exact h2⟩
  · rintro ⟨p, h1, h2⟩
    exact ⟨p, h1, by rw [h p (List.mem_range.mp h1)]; exact h2⟩
theorem led_true {ν : Nat → Int32} {f : Nat} : led ν f = true ↔ ∃ p, p < 16 ∧ ν p = nI f := by
  unfold led
  rw [List.any_eq_true]
  constructor
  · rintro ⟨p, h1, h2⟩
    exact ⟨p, List.mem_range.mp h1, by simpa using h2⟩
  · rintro ⟨p, h1, h2⟩
    exact ⟨p, List.mem_range.mpr h1, by simpa using h2⟩
theorem G_led (h : G b e m K N L3 L2 μ s) (f : Nat) : led (fun p => s (m + 1) (706 + 2 * p)) f = led (μ (e + 3)) f := led_cg (fun p hp => G_rd h (gd_t2 p hp).1) f
theorem G_free (hn : 1000 ≤ n) (h : G b e m K N L3 L2 μ s) : F_X11_freeFrame n m s = some (low (led (μ (e + 3))) 0 10) := by
  rw [m_free hn]
  congr 1
  exact low_cg 10 0 (fun f _ _ => G_led h f)
theorem G_ht (h : G b e m K N L3 L2 μ s) : ∀ p, p < 16 → μ (e + 3) p = -1 ∨ ∃ q, q ≤ 9 ∧ μ (e + 3) p = nI q := by
  intro p hp
  rcases G_sh h hp with h1 | ⟨k, h1, h2, -⟩
  · exact Or.inl h1.1
  · exact Or.inr ⟨k, h1, h2⟩
end TABS
